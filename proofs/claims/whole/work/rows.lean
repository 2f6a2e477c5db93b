section
-- ===== PART A: goes FIRST, ahead of the names: the tables' words, and 'selects' of the private methods out of them =====
/-- a private method of a class that the tables say can be made, by its rows of tables_1 -/
def lw_okq (q : MethodName × Nat) : Prop := (q.1.cls ≠ "java/lang/invoke/MethodHandle" ∧ q.1.cls ≠ "java/lang/invoke/VarHandle") ∧ Cond.instantiable q.1.cls q.2 ∈ tables_1 ∧ Cond.privateMethod q.1 ∈ tables_1 ∧ Cond.instanceMethod q.1 ∈ tables_1
theorem lw_p0 : lw_okq (⟨"AfterEachVowel$Tape", "afterBlanks", "(I)I"⟩, 6) := ⟨⟨by decide +kernel, by decide +kernel⟩, List.mem_of_getElem? (i := 116) (by decide +kernel), List.mem_of_getElem? (i := 356) (by decide +kernel), List.mem_of_getElem? (i := 357) (by decide +kernel)⟩
theorem lw_p1 : lw_okq (⟨"AfterEachVowel$Tape", "scanToken", "(I)I"⟩, 6) := ⟨⟨by decide +kernel, by decide +kernel⟩, List.mem_of_getElem? (i := 116) (by decide +kernel), List.mem_of_getElem? (i := 360) (by decide +kernel), List.mem_of_getElem? (i := 361) (by decide +kernel)⟩
theorem lw_p2 : lw_okq (⟨"AfterEachVowel$Tape", "addToken", "(IIII)I"⟩, 6) := ⟨⟨by decide +kernel, by decide +kernel⟩, List.mem_of_getElem? (i := 116) (by decide +kernel), List.mem_of_getElem? (i := 364) (by decide +kernel), List.mem_of_getElem? (i := 365) (by decide +kernel)⟩
theorem lw_p3 : lw_okq (⟨"AfterEachVowel$Tape", "scanWord", "(I)I"⟩, 6) := ⟨⟨by decide +kernel, by decide +kernel⟩, List.mem_of_getElem? (i := 116) (by decide +kernel), List.mem_of_getElem? (i := 368) (by decide +kernel), List.mem_of_getElem? (i := 369) (by decide +kernel)⟩
theorem lw_p4 : lw_okq (⟨"AfterEachVowel$Tape", "isSpelled", "(Ljava/lang/String;II)Z"⟩, 6) := ⟨⟨by decide +kernel, by decide +kernel⟩, List.mem_of_getElem? (i := 116) (by decide +kernel), List.mem_of_getElem? (i := 387) (by decide +kernel), List.mem_of_getElem? (i := 388) (by decide +kernel)⟩
theorem lw_p5 : lw_okq (⟨"AfterEachVowel$Tape", "scanNumber", "(I)I"⟩, 6) := ⟨⟨by decide +kernel, by decide +kernel⟩, List.mem_of_getElem? (i := 116) (by decide +kernel), List.mem_of_getElem? (i := 393) (by decide +kernel), List.mem_of_getElem? (i := 394) (by decide +kernel)⟩
theorem lw_p6 : lw_okq (⟨"AfterEachVowel$Parser", "readPart", "(II)Z"⟩, 4) := ⟨⟨by decide +kernel, by decide +kernel⟩, List.mem_of_getElem? (i := 147) (by decide +kernel), List.mem_of_getElem? (i := 461) (by decide +kernel), List.mem_of_getElem? (i := 462) (by decide +kernel)⟩
theorem lw_p7 : lw_okq (⟨"AfterEachVowel$Parser", "take", "(I)Z"⟩, 4) := ⟨⟨by decide +kernel, by decide +kernel⟩, List.mem_of_getElem? (i := 147) (by decide +kernel), List.mem_of_getElem? (i := 465) (by decide +kernel), List.mem_of_getElem? (i := 466) (by decide +kernel)⟩
theorem lw_p8 : lw_okq (⟨"AfterEachVowel$Parser", "next", "()I"⟩, 4) := ⟨⟨by decide +kernel, by decide +kernel⟩, List.mem_of_getElem? (i := 147) (by decide +kernel), List.mem_of_getElem? (i := 469) (by decide +kernel), List.mem_of_getElem? (i := 470) (by decide +kernel)⟩
theorem lw_p9 : lw_okq (⟨"AfterEachVowel$Parser", "readE", "()I"⟩, 4) := ⟨⟨by decide +kernel, by decide +kernel⟩, List.mem_of_getElem? (i := 147) (by decide +kernel), List.mem_of_getElem? (i := 473) (by decide +kernel), List.mem_of_getElem? (i := 474) (by decide +kernel)⟩
theorem lw_p10 : lw_okq (⟨"AfterEachVowel$Parser", "readAnd", "()I"⟩, 4) := ⟨⟨by decide +kernel, by decide +kernel⟩, List.mem_of_getElem? (i := 147) (by decide +kernel), List.mem_of_getElem? (i := 477) (by decide +kernel), List.mem_of_getElem? (i := 478) (by decide +kernel)⟩
theorem lw_p11 : lw_okq (⟨"AfterEachVowel$Parser", "readNot", "()I"⟩, 4) := ⟨⟨by decide +kernel, by decide +kernel⟩, List.mem_of_getElem? (i := 147) (by decide +kernel), List.mem_of_getElem? (i := 481) (by decide +kernel), List.mem_of_getElem? (i := 482) (by decide +kernel)⟩
theorem lw_p12 : lw_okq (⟨"AfterEachVowel$Parser", "readComparison", "()I"⟩, 4) := ⟨⟨by decide +kernel, by decide +kernel⟩, List.mem_of_getElem? (i := 147) (by decide +kernel), List.mem_of_getElem? (i := 485) (by decide +kernel), List.mem_of_getElem? (i := 486) (by decide +kernel)⟩
theorem lw_p13 : lw_okq (⟨"AfterEachVowel$Parser", "readSum", "()I"⟩, 4) := ⟨⟨by decide +kernel, by decide +kernel⟩, List.mem_of_getElem? (i := 147) (by decide +kernel), List.mem_of_getElem? (i := 489) (by decide +kernel), List.mem_of_getElem? (i := 490) (by decide +kernel)⟩
theorem lw_p14 : lw_okq (⟨"AfterEachVowel$Parser", "readTerm", "()I"⟩, 4) := ⟨⟨by decide +kernel, by decide +kernel⟩, List.mem_of_getElem? (i := 147) (by decide +kernel), List.mem_of_getElem? (i := 493) (by decide +kernel), List.mem_of_getElem? (i := 494) (by decide +kernel)⟩
theorem lw_p15 : lw_okq (⟨"AfterEachVowel$Parser", "readOne", "()I"⟩, 4) := ⟨⟨by decide +kernel, by decide +kernel⟩, List.mem_of_getElem? (i := 147) (by decide +kernel), List.mem_of_getElem? (i := 497) (by decide +kernel), List.mem_of_getElem? (i := 498) (by decide +kernel)⟩
def lw_privs_1 : List (MethodName × Nat) := [(⟨"AfterEachVowel$Tape", "afterBlanks", "(I)I"⟩, 6), (⟨"AfterEachVowel$Tape", "scanToken", "(I)I"⟩, 6), (⟨"AfterEachVowel$Tape", "addToken", "(IIII)I"⟩, 6), (⟨"AfterEachVowel$Tape", "scanWord", "(I)I"⟩, 6), (⟨"AfterEachVowel$Tape", "isSpelled", "(Ljava/lang/String;II)Z"⟩, 6), (⟨"AfterEachVowel$Tape", "scanNumber", "(I)I"⟩, 6), (⟨"AfterEachVowel$Parser", "readPart", "(II)Z"⟩, 4), (⟨"AfterEachVowel$Parser", "take", "(I)Z"⟩, 4), (⟨"AfterEachVowel$Parser", "next", "()I"⟩, 4), (⟨"AfterEachVowel$Parser", "readE", "()I"⟩, 4), (⟨"AfterEachVowel$Parser", "readAnd", "()I"⟩, 4), (⟨"AfterEachVowel$Parser", "readNot", "()I"⟩, 4), (⟨"AfterEachVowel$Parser", "readComparison", "()I"⟩, 4), (⟨"AfterEachVowel$Parser", "readSum", "()I"⟩, 4), (⟨"AfterEachVowel$Parser", "readTerm", "()I"⟩, 4), (⟨"AfterEachVowel$Parser", "readOne", "()I"⟩, 4)]
theorem lw_r1 : ∀ q ∈ lw_privs_1, lw_okq q := List.forall_mem_cons.mpr ⟨lw_p0, List.forall_mem_cons.mpr ⟨lw_p1, List.forall_mem_cons.mpr ⟨lw_p2, List.forall_mem_cons.mpr ⟨lw_p3, List.forall_mem_cons.mpr ⟨lw_p4, List.forall_mem_cons.mpr ⟨lw_p5, List.forall_mem_cons.mpr ⟨lw_p6, List.forall_mem_cons.mpr ⟨lw_p7, List.forall_mem_cons.mpr ⟨lw_p8, List.forall_mem_cons.mpr ⟨lw_p9, List.forall_mem_cons.mpr ⟨lw_p10, List.forall_mem_cons.mpr ⟨lw_p11, List.forall_mem_cons.mpr ⟨lw_p12, List.forall_mem_cons.mpr ⟨lw_p13, List.forall_mem_cons.mpr ⟨lw_p14, List.forall_mem_cons.mpr ⟨lw_p15, fun _ h => absurd h List.not_mem_nil⟩⟩⟩⟩⟩⟩⟩⟩⟩⟩⟩⟩⟩⟩⟩⟩
theorem lw_p16 : lw_okq (⟨"AfterEachVowel$Parser", "readValue", "(I)I"⟩, 4) := ⟨⟨by decide +kernel, by decide +kernel⟩, List.mem_of_getElem? (i := 147) (by decide +kernel), List.mem_of_getElem? (i := 501) (by decide +kernel), List.mem_of_getElem? (i := 502) (by decide +kernel)⟩
theorem lw_p17 : lw_okq (⟨"AfterEachVowel$Parser", "takeOpening", "()Z"⟩, 4) := ⟨⟨by decide +kernel, by decide +kernel⟩, List.mem_of_getElem? (i := 147) (by decide +kernel), List.mem_of_getElem? (i := 509) (by decide +kernel), List.mem_of_getElem? (i := 510) (by decide +kernel)⟩
theorem lw_p18 : lw_okq (⟨"AfterEachVowel$Parser", "closed", "(II)I"⟩, 4) := ⟨⟨by decide +kernel, by decide +kernel⟩, List.mem_of_getElem? (i := 147) (by decide +kernel), List.mem_of_getElem? (i := 513) (by decide +kernel), List.mem_of_getElem? (i := 514) (by decide +kernel)⟩
theorem lw_p19 : lw_okq (⟨"AfterEachVowel$Parser", "readToClosing", "()I"⟩, 4) := ⟨⟨by decide +kernel, by decide +kernel⟩, List.mem_of_getElem? (i := 147) (by decide +kernel), List.mem_of_getElem? (i := 517) (by decide +kernel), List.mem_of_getElem? (i := 518) (by decide +kernel)⟩
theorem lw_p20 : lw_okq (⟨"AfterEachVowel$Parser", "joined", "(III)I"⟩, 4) := ⟨⟨by decide +kernel, by decide +kernel⟩, List.mem_of_getElem? (i := 147) (by decide +kernel), List.mem_of_getElem? (i := 521) (by decide +kernel), List.mem_of_getElem? (i := 522) (by decide +kernel)⟩
theorem lw_p21 : lw_okq (⟨"AfterEachVowel$Parser", "place", "()I"⟩, 4) := ⟨⟨by decide +kernel, by decide +kernel⟩, List.mem_of_getElem? (i := 147) (by decide +kernel), List.mem_of_getElem? (i := 529) (by decide +kernel), List.mem_of_getElem? (i := 530) (by decide +kernel)⟩
theorem lw_p22 : lw_okq (⟨"AfterEachVowel$Saying", "putAfterVowels", "(II)V"⟩, 2) := ⟨⟨by decide +kernel, by decide +kernel⟩, List.mem_of_getElem? (i := 175) (by decide +kernel), List.mem_of_getElem? (i := 707) (by decide +kernel), List.mem_of_getElem? (i := 708) (by decide +kernel)⟩
theorem lw_p23 : lw_okq (⟨"AfterEachVowel$Saying", "shift", "(I)V"⟩, 2) := ⟨⟨by decide +kernel, by decide +kernel⟩, List.mem_of_getElem? (i := 175) (by decide +kernel), List.mem_of_getElem? (i := 715) (by decide +kernel), List.mem_of_getElem? (i := 716) (by decide +kernel)⟩
theorem lw_p24 : lw_okq (⟨"AfterEachVowel$Saying", "repeatFirst", "()V"⟩, 2) := ⟨⟨by decide +kernel, by decide +kernel⟩, List.mem_of_getElem? (i := 175) (by decide +kernel), List.mem_of_getElem? (i := 719) (by decide +kernel), List.mem_of_getElem? (i := 720) (by decide +kernel)⟩
theorem lw_p25 : lw_okq (⟨"AfterEachVowel$Saying", "shiftVowels", "(II)V"⟩, 2) := ⟨⟨by decide +kernel, by decide +kernel⟩, List.mem_of_getElem? (i := 175) (by decide +kernel), List.mem_of_getElem? (i := 723) (by decide +kernel), List.mem_of_getElem? (i := 724) (by decide +kernel)⟩
theorem lw_p26 : lw_okq (⟨"AfterEachVowel$Saying", "reverse", "()V"⟩, 2) := ⟨⟨by decide +kernel, by decide +kernel⟩, List.mem_of_getElem? (i := 175) (by decide +kernel), List.mem_of_getElem? (i := 727) (by decide +kernel), List.mem_of_getElem? (i := 728) (by decide +kernel)⟩
theorem lw_p27 : lw_okq (⟨"AfterEachVowel", "judged", "(II)I"⟩, 13) := ⟨⟨by decide +kernel, by decide +kernel⟩, List.mem_of_getElem? (i := 21) (by decide +kernel), List.mem_of_getElem? (i := 747) (by decide +kernel), List.mem_of_getElem? (i := 748) (by decide +kernel)⟩
theorem lw_p28 : lw_okq (⟨"AfterEachVowel", "law", "()LAfterEachVowel$Text;"⟩, 13) := ⟨⟨by decide +kernel, by decide +kernel⟩, List.mem_of_getElem? (i := 21) (by decide +kernel), List.mem_of_getElem? (i := 761) (by decide +kernel), List.mem_of_getElem? (i := 762) (by decide +kernel)⟩
theorem lw_p29 : lw_okq (⟨"AfterEachVowel$Text", "worked", "(III[I)I"⟩, 6) := ⟨⟨by decide +kernel, by decide +kernel⟩, List.mem_of_getElem? (i := 250) (by decide +kernel), List.mem_of_getElem? (i := 773) (by decide +kernel), List.mem_of_getElem? (i := 774) (by decide +kernel)⟩
theorem lw_p30 : lw_okq (⟨"AfterEachVowel", "roundOf", "(I)I"⟩, 13) := ⟨⟨by decide +kernel, by decide +kernel⟩, List.mem_of_getElem? (i := 21) (by decide +kernel), List.mem_of_getElem? (i := 784) (by decide +kernel), List.mem_of_getElem? (i := 785) (by decide +kernel)⟩
theorem lw_p31 : lw_okq (⟨"AfterEachVowel", "safeLetters", "(I)I"⟩, 13) := ⟨⟨by decide +kernel, by decide +kernel⟩, List.mem_of_getElem? (i := 21) (by decide +kernel), List.mem_of_getElem? (i := 794) (by decide +kernel), List.mem_of_getElem? (i := 795) (by decide +kernel)⟩
def lw_privs_2 : List (MethodName × Nat) := [(⟨"AfterEachVowel$Parser", "readValue", "(I)I"⟩, 4), (⟨"AfterEachVowel$Parser", "takeOpening", "()Z"⟩, 4), (⟨"AfterEachVowel$Parser", "closed", "(II)I"⟩, 4), (⟨"AfterEachVowel$Parser", "readToClosing", "()I"⟩, 4), (⟨"AfterEachVowel$Parser", "joined", "(III)I"⟩, 4), (⟨"AfterEachVowel$Parser", "place", "()I"⟩, 4), (⟨"AfterEachVowel$Saying", "putAfterVowels", "(II)V"⟩, 2), (⟨"AfterEachVowel$Saying", "shift", "(I)V"⟩, 2), (⟨"AfterEachVowel$Saying", "repeatFirst", "()V"⟩, 2), (⟨"AfterEachVowel$Saying", "shiftVowels", "(II)V"⟩, 2), (⟨"AfterEachVowel$Saying", "reverse", "()V"⟩, 2), (⟨"AfterEachVowel", "judged", "(II)I"⟩, 13), (⟨"AfterEachVowel", "law", "()LAfterEachVowel$Text;"⟩, 13), (⟨"AfterEachVowel$Text", "worked", "(III[I)I"⟩, 6), (⟨"AfterEachVowel", "roundOf", "(I)I"⟩, 13), (⟨"AfterEachVowel", "safeLetters", "(I)I"⟩, 13)]
theorem lw_r2 : ∀ q ∈ lw_privs_2, lw_okq q := List.forall_mem_cons.mpr ⟨lw_p16, List.forall_mem_cons.mpr ⟨lw_p17, List.forall_mem_cons.mpr ⟨lw_p18, List.forall_mem_cons.mpr ⟨lw_p19, List.forall_mem_cons.mpr ⟨lw_p20, List.forall_mem_cons.mpr ⟨lw_p21, List.forall_mem_cons.mpr ⟨lw_p22, List.forall_mem_cons.mpr ⟨lw_p23, List.forall_mem_cons.mpr ⟨lw_p24, List.forall_mem_cons.mpr ⟨lw_p25, List.forall_mem_cons.mpr ⟨lw_p26, List.forall_mem_cons.mpr ⟨lw_p27, List.forall_mem_cons.mpr ⟨lw_p28, List.forall_mem_cons.mpr ⟨lw_p29, List.forall_mem_cons.mpr ⟨lw_p30, List.forall_mem_cons.mpr ⟨lw_p31, fun _ h => absurd h List.not_mem_nil⟩⟩⟩⟩⟩⟩⟩⟩⟩⟩⟩⟩⟩⟩⟩⟩
theorem lw_p32 : lw_okq (⟨"AfterEachVowel", "isSafe", "(II)Z"⟩, 13) := ⟨⟨by decide +kernel, by decide +kernel⟩, List.mem_of_getElem? (i := 21) (by decide +kernel), List.mem_of_getElem? (i := 804) (by decide +kernel), List.mem_of_getElem? (i := 805) (by decide +kernel)⟩
theorem lw_p33 : lw_okq (⟨"AfterEachVowel", "worthBy", "(LAfterEachVowel$Row;)I"⟩, 13) := ⟨⟨by decide +kernel, by decide +kernel⟩, List.mem_of_getElem? (i := 21) (by decide +kernel), List.mem_of_getElem? (i := 820) (by decide +kernel), List.mem_of_getElem? (i := 821) (by decide +kernel)⟩
theorem lw_p34 : lw_okq (⟨"AfterEachVowel", "idleRules", "()I"⟩, 13) := ⟨⟨by decide +kernel, by decide +kernel⟩, List.mem_of_getElem? (i := 21) (by decide +kernel), List.mem_of_getElem? (i := 846) (by decide +kernel), List.mem_of_getElem? (i := 847) (by decide +kernel)⟩
theorem lw_p35 : lw_okq (⟨"AfterEachVowel", "isIdle", "(I)Z"⟩, 13) := ⟨⟨by decide +kernel, by decide +kernel⟩, List.mem_of_getElem? (i := 21) (by decide +kernel), List.mem_of_getElem? (i := 850) (by decide +kernel), List.mem_of_getElem? (i := 851) (by decide +kernel)⟩
theorem lw_p36 : lw_okq (⟨"AfterEachVowel$Orders", "goOn", "(LAfterEachVowel$State;LAfterEachVowel$Text;III)V"⟩, 6) := ⟨⟨by decide +kernel, by decide +kernel⟩, List.mem_of_getElem? (i := 217) (by decide +kernel), List.mem_of_getElem? (i := 880) (by decide +kernel), List.mem_of_getElem? (i := 881) (by decide +kernel)⟩
theorem lw_p37 : lw_okq (⟨"AfterEachVowel$Orders", "keepBetter", "(II)V"⟩, 6) := ⟨⟨by decide +kernel, by decide +kernel⟩, List.mem_of_getElem? (i := 217) (by decide +kernel), List.mem_of_getElem? (i := 885) (by decide +kernel), List.mem_of_getElem? (i := 886) (by decide +kernel)⟩
theorem lw_p38 : lw_okq (⟨"AfterEachVowel", "wordsSaidAs", "(LAfterEachVowel$Sheet;)I"⟩, 13) := ⟨⟨by decide +kernel, by decide +kernel⟩, List.mem_of_getElem? (i := 21) (by decide +kernel), List.mem_of_getElem? (i := 907) (by decide +kernel), List.mem_of_getElem? (i := 908) (by decide +kernel)⟩
theorem lw_p39 : lw_okq (⟨"AfterEachVowel", "rulesTurningTo", "(LAfterEachVowel$Sheet;)I"⟩, 13) := ⟨⟨by decide +kernel, by decide +kernel⟩, List.mem_of_getElem? (i := 21) (by decide +kernel), List.mem_of_getElem? (i := 916) (by decide +kernel), List.mem_of_getElem? (i := 917) (by decide +kernel)⟩
theorem lw_p40 : lw_okq (⟨"AfterEachVowel", "wordsTurningTo", "(LAfterEachVowel$Sheet;I)I"⟩, 13) := ⟨⟨by decide +kernel, by decide +kernel⟩, List.mem_of_getElem? (i := 21) (by decide +kernel), List.mem_of_getElem? (i := 920) (by decide +kernel), List.mem_of_getElem? (i := 921) (by decide +kernel)⟩
theorem lw_p41 : lw_okq (⟨"AfterEachVowel", "pairsTurningTo", "(LAfterEachVowel$Sheet;)I"⟩, 13) := ⟨⟨by decide +kernel, by decide +kernel⟩, List.mem_of_getElem? (i := 21) (by decide +kernel), List.mem_of_getElem? (i := 924) (by decide +kernel), List.mem_of_getElem? (i := 925) (by decide +kernel)⟩
theorem lw_p42 : lw_okq (⟨"AfterEachVowel", "fitting", "(LAfterEachVowel$Sheet;I[III)I"⟩, 13) := ⟨⟨by decide +kernel, by decide +kernel⟩, List.mem_of_getElem? (i := 21) (by decide +kernel), List.mem_of_getElem? (i := 932) (by decide +kernel), List.mem_of_getElem? (i := 933) (by decide +kernel)⟩
theorem lw_p43 : lw_okq (⟨"AfterEachVowelModel", "isRule", "(I)Z"⟩, 45) := ⟨⟨by decide +kernel, by decide +kernel⟩, List.mem_of_getElem? (i := 1050) (by decide +kernel), List.mem_of_getElem? (i := 1048) (by decide +kernel), List.mem_of_getElem? (i := 1049) (by decide +kernel)⟩
theorem lw_p44 : lw_okq (⟨"AfterEachVowelModel", "isWord", "(I)Z"⟩, 45) := ⟨⟨by decide +kernel, by decide +kernel⟩, List.mem_of_getElem? (i := 1050) (by decide +kernel), List.mem_of_getElem? (i := 1061) (by decide +kernel), List.mem_of_getElem? (i := 1062) (by decide +kernel)⟩
theorem lw_p45 : lw_okq (⟨"AfterEachVowelModel", "readAll", "(I)I"⟩, 45) := ⟨⟨by decide +kernel, by decide +kernel⟩, List.mem_of_getElem? (i := 1050) (by decide +kernel), List.mem_of_getElem? (i := 1079) (by decide +kernel), List.mem_of_getElem? (i := 1080) (by decide +kernel)⟩
theorem lw_p46 : lw_okq (⟨"AfterEachVowelModel", "next", "()V"⟩, 45) := ⟨⟨by decide +kernel, by decide +kernel⟩, List.mem_of_getElem? (i := 1050) (by decide +kernel), List.mem_of_getElem? (i := 1083) (by decide +kernel), List.mem_of_getElem? (i := 1084) (by decide +kernel)⟩
theorem lw_p47 : lw_okq (⟨"AfterEachVowelModel", "isLetter", "(I)Z"⟩, 45) := ⟨⟨by decide +kernel, by decide +kernel⟩, List.mem_of_getElem? (i := 1050) (by decide +kernel), List.mem_of_getElem? (i := 1087) (by decide +kernel), List.mem_of_getElem? (i := 1088) (by decide +kernel)⟩
def lw_privs_3 : List (MethodName × Nat) := [(⟨"AfterEachVowel", "isSafe", "(II)Z"⟩, 13), (⟨"AfterEachVowel", "worthBy", "(LAfterEachVowel$Row;)I"⟩, 13), (⟨"AfterEachVowel", "idleRules", "()I"⟩, 13), (⟨"AfterEachVowel", "isIdle", "(I)Z"⟩, 13), (⟨"AfterEachVowel$Orders", "goOn", "(LAfterEachVowel$State;LAfterEachVowel$Text;III)V"⟩, 6), (⟨"AfterEachVowel$Orders", "keepBetter", "(II)V"⟩, 6), (⟨"AfterEachVowel", "wordsSaidAs", "(LAfterEachVowel$Sheet;)I"⟩, 13), (⟨"AfterEachVowel", "rulesTurningTo", "(LAfterEachVowel$Sheet;)I"⟩, 13), (⟨"AfterEachVowel", "wordsTurningTo", "(LAfterEachVowel$Sheet;I)I"⟩, 13), (⟨"AfterEachVowel", "pairsTurningTo", "(LAfterEachVowel$Sheet;)I"⟩, 13), (⟨"AfterEachVowel", "fitting", "(LAfterEachVowel$Sheet;I[III)I"⟩, 13), (⟨"AfterEachVowelModel", "isRule", "(I)Z"⟩, 45), (⟨"AfterEachVowelModel", "isWord", "(I)Z"⟩, 45), (⟨"AfterEachVowelModel", "readAll", "(I)I"⟩, 45), (⟨"AfterEachVowelModel", "next", "()V"⟩, 45), (⟨"AfterEachVowelModel", "isLetter", "(I)Z"⟩, 45)]
theorem lw_r3 : ∀ q ∈ lw_privs_3, lw_okq q := List.forall_mem_cons.mpr ⟨lw_p32, List.forall_mem_cons.mpr ⟨lw_p33, List.forall_mem_cons.mpr ⟨lw_p34, List.forall_mem_cons.mpr ⟨lw_p35, List.forall_mem_cons.mpr ⟨lw_p36, List.forall_mem_cons.mpr ⟨lw_p37, List.forall_mem_cons.mpr ⟨lw_p38, List.forall_mem_cons.mpr ⟨lw_p39, List.forall_mem_cons.mpr ⟨lw_p40, List.forall_mem_cons.mpr ⟨lw_p41, List.forall_mem_cons.mpr ⟨lw_p42, List.forall_mem_cons.mpr ⟨lw_p43, List.forall_mem_cons.mpr ⟨lw_p44, List.forall_mem_cons.mpr ⟨lw_p45, List.forall_mem_cons.mpr ⟨lw_p46, List.forall_mem_cons.mpr ⟨lw_p47, fun _ h => absurd h List.not_mem_nil⟩⟩⟩⟩⟩⟩⟩⟩⟩⟩⟩⟩⟩⟩⟩⟩
theorem lw_p48 : lw_okq (⟨"AfterEachVowelModel", "readWord", "()V"⟩, 45) := ⟨⟨by decide +kernel, by decide +kernel⟩, List.mem_of_getElem? (i := 1050) (by decide +kernel), List.mem_of_getElem? (i := 1091) (by decide +kernel), List.mem_of_getElem? (i := 1092) (by decide +kernel)⟩
theorem lw_p49 : lw_okq (⟨"AfterEachVowelModel", "isDigit", "(I)Z"⟩, 45) := ⟨⟨by decide +kernel, by decide +kernel⟩, List.mem_of_getElem? (i := 1050) (by decide +kernel), List.mem_of_getElem? (i := 1095) (by decide +kernel), List.mem_of_getElem? (i := 1096) (by decide +kernel)⟩
theorem lw_p50 : lw_okq (⟨"AfterEachVowelModel", "readNumber", "()V"⟩, 45) := ⟨⟨by decide +kernel, by decide +kernel⟩, List.mem_of_getElem? (i := 1050) (by decide +kernel), List.mem_of_getElem? (i := 1099) (by decide +kernel), List.mem_of_getElem? (i := 1100) (by decide +kernel)⟩
theorem lw_p51 : lw_okq (⟨"AfterEachVowelModel", "isKey", "(I)Z"⟩, 45) := ⟨⟨by decide +kernel, by decide +kernel⟩, List.mem_of_getElem? (i := 1050) (by decide +kernel), List.mem_of_getElem? (i := 1103) (by decide +kernel), List.mem_of_getElem? (i := 1104) (by decide +kernel)⟩
theorem lw_p52 : lw_okq (⟨"AfterEachVowelModel", "readE", "(I)Z"⟩, 45) := ⟨⟨by decide +kernel, by decide +kernel⟩, List.mem_of_getElem? (i := 1050) (by decide +kernel), List.mem_of_getElem? (i := 1107) (by decide +kernel), List.mem_of_getElem? (i := 1108) (by decide +kernel)⟩
theorem lw_p53 : lw_okq (⟨"AfterEachVowelModel", "emit", "(I)V"⟩, 45) := ⟨⟨by decide +kernel, by decide +kernel⟩, List.mem_of_getElem? (i := 1050) (by decide +kernel), List.mem_of_getElem? (i := 1111) (by decide +kernel), List.mem_of_getElem? (i := 1112) (by decide +kernel)⟩
theorem lw_p54 : lw_okq (⟨"AfterEachVowelModel", "doAll", "(I)V"⟩, 45) := ⟨⟨by decide +kernel, by decide +kernel⟩, List.mem_of_getElem? (i := 1050) (by decide +kernel), List.mem_of_getElem? (i := 1115) (by decide +kernel), List.mem_of_getElem? (i := 1116) (by decide +kernel)⟩
theorem lw_p55 : lw_okq (⟨"AfterEachVowelModel", "isSign", "(I)Z"⟩, 45) := ⟨⟨by decide +kernel, by decide +kernel⟩, List.mem_of_getElem? (i := 1050) (by decide +kernel), List.mem_of_getElem? (i := 1122) (by decide +kernel), List.mem_of_getElem? (i := 1123) (by decide +kernel)⟩
theorem lw_p56 : lw_okq (⟨"AfterEachVowelModel", "ahead", "(Z)Z"⟩, 45) := ⟨⟨by decide +kernel, by decide +kernel⟩, List.mem_of_getElem? (i := 1050) (by decide +kernel), List.mem_of_getElem? (i := 1126) (by decide +kernel), List.mem_of_getElem? (i := 1127) (by decide +kernel)⟩
theorem lw_p57 : lw_okq (⟨"AfterEachVowelModel", "await", "(I)V"⟩, 45) := ⟨⟨by decide +kernel, by decide +kernel⟩, List.mem_of_getElem? (i := 1050) (by decide +kernel), List.mem_of_getElem? (i := 1130) (by decide +kernel), List.mem_of_getElem? (i := 1131) (by decide +kernel)⟩
theorem lw_p58 : lw_okq (⟨"AfterEachVowelModel", "between", "()Z"⟩, 45) := ⟨⟨by decide +kernel, by decide +kernel⟩, List.mem_of_getElem? (i := 1050) (by decide +kernel), List.mem_of_getElem? (i := 1134) (by decide +kernel), List.mem_of_getElem? (i := 1135) (by decide +kernel)⟩
theorem lw_p59 : lw_okq (⟨"AfterEachVowelModel", "closes", "()Z"⟩, 45) := ⟨⟨by decide +kernel, by decide +kernel⟩, List.mem_of_getElem? (i := 1050) (by decide +kernel), List.mem_of_getElem? (i := 1138) (by decide +kernel), List.mem_of_getElem? (i := 1139) (by decide +kernel)⟩
theorem lw_p60 : lw_okq (⟨"AfterEachVowelModel", "say", "(I)V"⟩, 45) := ⟨⟨by decide +kernel, by decide +kernel⟩, List.mem_of_getElem? (i := 1050) (by decide +kernel), List.mem_of_getElem? (i := 1294) (by decide +kernel), List.mem_of_getElem? (i := 1295) (by decide +kernel)⟩
theorem lw_p61 : lw_okq (⟨"AfterEachVowelModel", "begin", "(I)V"⟩, 45) := ⟨⟨by decide +kernel, by decide +kernel⟩, List.mem_of_getElem? (i := 1050) (by decide +kernel), List.mem_of_getElem? (i := 1298) (by decide +kernel), List.mem_of_getElem? (i := 1299) (by decide +kernel)⟩
theorem lw_p62 : lw_okq (⟨"AfterEachVowelModel", "turnByRow", "()V"⟩, 45) := ⟨⟨by decide +kernel, by decide +kernel⟩, List.mem_of_getElem? (i := 1050) (by decide +kernel), List.mem_of_getElem? (i := 1302) (by decide +kernel), List.mem_of_getElem? (i := 1303) (by decide +kernel)⟩
theorem lw_p63 : lw_okq (⟨"AfterEachVowelModel", "turn", "(I)V"⟩, 45) := ⟨⟨by decide +kernel, by decide +kernel⟩, List.mem_of_getElem? (i := 1050) (by decide +kernel), List.mem_of_getElem? (i := 1306) (by decide +kernel), List.mem_of_getElem? (i := 1307) (by decide +kernel)⟩
def lw_privs_4 : List (MethodName × Nat) := [(⟨"AfterEachVowelModel", "readWord", "()V"⟩, 45), (⟨"AfterEachVowelModel", "isDigit", "(I)Z"⟩, 45), (⟨"AfterEachVowelModel", "readNumber", "()V"⟩, 45), (⟨"AfterEachVowelModel", "isKey", "(I)Z"⟩, 45), (⟨"AfterEachVowelModel", "readE", "(I)Z"⟩, 45), (⟨"AfterEachVowelModel", "emit", "(I)V"⟩, 45), (⟨"AfterEachVowelModel", "doAll", "(I)V"⟩, 45), (⟨"AfterEachVowelModel", "isSign", "(I)Z"⟩, 45), (⟨"AfterEachVowelModel", "ahead", "(Z)Z"⟩, 45), (⟨"AfterEachVowelModel", "await", "(I)V"⟩, 45), (⟨"AfterEachVowelModel", "between", "()Z"⟩, 45), (⟨"AfterEachVowelModel", "closes", "()Z"⟩, 45), (⟨"AfterEachVowelModel", "say", "(I)V"⟩, 45), (⟨"AfterEachVowelModel", "begin", "(I)V"⟩, 45), (⟨"AfterEachVowelModel", "turnByRow", "()V"⟩, 45), (⟨"AfterEachVowelModel", "turn", "(I)V"⟩, 45)]
theorem lw_r4 : ∀ q ∈ lw_privs_4, lw_okq q := List.forall_mem_cons.mpr ⟨lw_p48, List.forall_mem_cons.mpr ⟨lw_p49, List.forall_mem_cons.mpr ⟨lw_p50, List.forall_mem_cons.mpr ⟨lw_p51, List.forall_mem_cons.mpr ⟨lw_p52, List.forall_mem_cons.mpr ⟨lw_p53, List.forall_mem_cons.mpr ⟨lw_p54, List.forall_mem_cons.mpr ⟨lw_p55, List.forall_mem_cons.mpr ⟨lw_p56, List.forall_mem_cons.mpr ⟨lw_p57, List.forall_mem_cons.mpr ⟨lw_p58, List.forall_mem_cons.mpr ⟨lw_p59, List.forall_mem_cons.mpr ⟨lw_p60, List.forall_mem_cons.mpr ⟨lw_p61, List.forall_mem_cons.mpr ⟨lw_p62, List.forall_mem_cons.mpr ⟨lw_p63, fun _ h => absurd h List.not_mem_nil⟩⟩⟩⟩⟩⟩⟩⟩⟩⟩⟩⟩⟩⟩⟩⟩
theorem lw_p64 : lw_okq (⟨"AfterEachVowelModel", "isVowel", "(I)Z"⟩, 45) := ⟨⟨by decide +kernel, by decide +kernel⟩, List.mem_of_getElem? (i := 1050) (by decide +kernel), List.mem_of_getElem? (i := 1310) (by decide +kernel), List.mem_of_getElem? (i := 1311) (by decide +kernel)⟩
theorem lw_p65 : lw_okq (⟨"AfterEachVowelModel", "round", "(I)I"⟩, 45) := ⟨⟨by decide +kernel, by decide +kernel⟩, List.mem_of_getElem? (i := 1050) (by decide +kernel), List.mem_of_getElem? (i := 1325) (by decide +kernel), List.mem_of_getElem? (i := 1326) (by decide +kernel)⟩
theorem lw_p66 : lw_okq (⟨"AfterEachVowelModel", "isAsItWas", "(I)Z"⟩, 45) := ⟨⟨by decide +kernel, by decide +kernel⟩, List.mem_of_getElem? (i := 1050) (by decide +kernel), List.mem_of_getElem? (i := 1329) (by decide +kernel), List.mem_of_getElem? (i := 1330) (by decide +kernel)⟩
theorem lw_p67 : lw_okq (⟨"AfterEachVowelModel", "safe", "(I)I"⟩, 45) := ⟨⟨by decide +kernel, by decide +kernel⟩, List.mem_of_getElem? (i := 1050) (by decide +kernel), List.mem_of_getElem? (i := 1333) (by decide +kernel), List.mem_of_getElem? (i := 1334) (by decide +kernel)⟩
theorem lw_p68 : lw_okq (⟨"AfterEachVowelModel", "sayAll", "()V"⟩, 45) := ⟨⟨by decide +kernel, by decide +kernel⟩, List.mem_of_getElem? (i := 1050) (by decide +kernel), List.mem_of_getElem? (i := 1337) (by decide +kernel), List.mem_of_getElem? (i := 1338) (by decide +kernel)⟩
theorem lw_p69 : lw_okq (⟨"AfterEachVowelModel", "alike", "()I"⟩, 45) := ⟨⟨by decide +kernel, by decide +kernel⟩, List.mem_of_getElem? (i := 1050) (by decide +kernel), List.mem_of_getElem? (i := 1341) (by decide +kernel), List.mem_of_getElem? (i := 1342) (by decide +kernel)⟩
theorem lw_p70 : lw_okq (⟨"AfterEachVowelModel", "isAlike", "(II)Z"⟩, 45) := ⟨⟨by decide +kernel, by decide +kernel⟩, List.mem_of_getElem? (i := 1050) (by decide +kernel), List.mem_of_getElem? (i := 1345) (by decide +kernel), List.mem_of_getElem? (i := 1346) (by decide +kernel)⟩
theorem lw_p71 : lw_okq (⟨"AfterEachVowelModel", "hardOf", "(I)I"⟩, 45) := ⟨⟨by decide +kernel, by decide +kernel⟩, List.mem_of_getElem? (i := 1050) (by decide +kernel), List.mem_of_getElem? (i := 1349) (by decide +kernel), List.mem_of_getElem? (i := 1350) (by decide +kernel)⟩
theorem lw_p72 : lw_okq (⟨"AfterEachVowelModel", "says", "(II)I"⟩, 45) := ⟨⟨by decide +kernel, by decide +kernel⟩, List.mem_of_getElem? (i := 1050) (by decide +kernel), List.mem_of_getElem? (i := 1353) (by decide +kernel), List.mem_of_getElem? (i := 1354) (by decide +kernel)⟩
theorem lw_p73 : lw_okq (⟨"AfterEachVowelModel", "worthNow", "()I"⟩, 45) := ⟨⟨by decide +kernel, by decide +kernel⟩, List.mem_of_getElem? (i := 1050) (by decide +kernel), List.mem_of_getElem? (i := 1367) (by decide +kernel), List.mem_of_getElem? (i := 1368) (by decide +kernel)⟩
theorem lw_p74 : lw_okq (⟨"AfterEachVowelModel", "apart", "()I"⟩, 45) := ⟨⟨by decide +kernel, by decide +kernel⟩, List.mem_of_getElem? (i := 1050) (by decide +kernel), List.mem_of_getElem? (i := 1371) (by decide +kernel), List.mem_of_getElem? (i := 1372) (by decide +kernel)⟩
theorem lw_p75 : lw_okq (⟨"AfterEachVowelModel", "idle", "()I"⟩, 45) := ⟨⟨by decide +kernel, by decide +kernel⟩, List.mem_of_getElem? (i := 1050) (by decide +kernel), List.mem_of_getElem? (i := 1375) (by decide +kernel), List.mem_of_getElem? (i := 1376) (by decide +kernel)⟩
theorem lw_p76 : lw_okq (⟨"AfterEachVowelModel", "layBy", "()V"⟩, 45) := ⟨⟨by decide +kernel, by decide +kernel⟩, List.mem_of_getElem? (i := 1050) (by decide +kernel), List.mem_of_getElem? (i := 1383) (by decide +kernel), List.mem_of_getElem? (i := 1384) (by decide +kernel)⟩
theorem lw_p77 : lw_okq (⟨"AfterEachVowelModel", "layBack", "()V"⟩, 45) := ⟨⟨by decide +kernel, by decide +kernel⟩, List.mem_of_getElem? (i := 1050) (by decide +kernel), List.mem_of_getElem? (i := 1387) (by decide +kernel), List.mem_of_getElem? (i := 1388) (by decide +kernel)⟩
theorem lw_p78 : lw_okq (⟨"AfterEachVowelModel", "next", "(I)Z"⟩, 45) := ⟨⟨by decide +kernel, by decide +kernel⟩, List.mem_of_getElem? (i := 1050) (by decide +kernel), List.mem_of_getElem? (i := 1395) (by decide +kernel), List.mem_of_getElem? (i := 1396) (by decide +kernel)⟩
theorem lw_p79 : lw_okq (⟨"AfterEachVowelModel", "swap", "(II)V"⟩, 45) := ⟨⟨by decide +kernel, by decide +kernel⟩, List.mem_of_getElem? (i := 1050) (by decide +kernel), List.mem_of_getElem? (i := 1399) (by decide +kernel), List.mem_of_getElem? (i := 1400) (by decide +kernel)⟩
def lw_privs_5 : List (MethodName × Nat) := [(⟨"AfterEachVowelModel", "isVowel", "(I)Z"⟩, 45), (⟨"AfterEachVowelModel", "round", "(I)I"⟩, 45), (⟨"AfterEachVowelModel", "isAsItWas", "(I)Z"⟩, 45), (⟨"AfterEachVowelModel", "safe", "(I)I"⟩, 45), (⟨"AfterEachVowelModel", "sayAll", "()V"⟩, 45), (⟨"AfterEachVowelModel", "alike", "()I"⟩, 45), (⟨"AfterEachVowelModel", "isAlike", "(II)Z"⟩, 45), (⟨"AfterEachVowelModel", "hardOf", "(I)I"⟩, 45), (⟨"AfterEachVowelModel", "says", "(II)I"⟩, 45), (⟨"AfterEachVowelModel", "worthNow", "()I"⟩, 45), (⟨"AfterEachVowelModel", "apart", "()I"⟩, 45), (⟨"AfterEachVowelModel", "idle", "()I"⟩, 45), (⟨"AfterEachVowelModel", "layBy", "()V"⟩, 45), (⟨"AfterEachVowelModel", "layBack", "()V"⟩, 45), (⟨"AfterEachVowelModel", "next", "(I)Z"⟩, 45), (⟨"AfterEachVowelModel", "swap", "(II)V"⟩, 45)]
theorem lw_r5 : ∀ q ∈ lw_privs_5, lw_okq q := List.forall_mem_cons.mpr ⟨lw_p64, List.forall_mem_cons.mpr ⟨lw_p65, List.forall_mem_cons.mpr ⟨lw_p66, List.forall_mem_cons.mpr ⟨lw_p67, List.forall_mem_cons.mpr ⟨lw_p68, List.forall_mem_cons.mpr ⟨lw_p69, List.forall_mem_cons.mpr ⟨lw_p70, List.forall_mem_cons.mpr ⟨lw_p71, List.forall_mem_cons.mpr ⟨lw_p72, List.forall_mem_cons.mpr ⟨lw_p73, List.forall_mem_cons.mpr ⟨lw_p74, List.forall_mem_cons.mpr ⟨lw_p75, List.forall_mem_cons.mpr ⟨lw_p76, List.forall_mem_cons.mpr ⟨lw_p77, List.forall_mem_cons.mpr ⟨lw_p78, List.forall_mem_cons.mpr ⟨lw_p79, fun _ h => absurd h List.not_mem_nil⟩⟩⟩⟩⟩⟩⟩⟩⟩⟩⟩⟩⟩⟩⟩⟩
theorem lw_p80 : lw_okq (⟨"AfterEachVowelModel", "isHeard", "(I)Z"⟩, 45) := ⟨⟨by decide +kernel, by decide +kernel⟩, List.mem_of_getElem? (i := 1050) (by decide +kernel), List.mem_of_getElem? (i := 1411) (by decide +kernel), List.mem_of_getElem? (i := 1412) (by decide +kernel)⟩
theorem lw_p81 : lw_okq (⟨"AfterEachVowelModel", "drawRow", "(I)V"⟩, 45) := ⟨⟨by decide +kernel, by decide +kernel⟩, List.mem_of_getElem? (i := 1050) (by decide +kernel), List.mem_of_getElem? (i := 1435) (by decide +kernel), List.mem_of_getElem? (i := 1436) (by decide +kernel)⟩
def lw_privs_6 : List (MethodName × Nat) := [(⟨"AfterEachVowelModel", "isHeard", "(I)Z"⟩, 45), (⟨"AfterEachVowelModel", "drawRow", "(I)V"⟩, 45)]
theorem lw_r6 : ∀ q ∈ lw_privs_6, lw_okq q := List.forall_mem_cons.mpr ⟨lw_p80, List.forall_mem_cons.mpr ⟨lw_p81, fun _ h => absurd h List.not_mem_nil⟩⟩
def lw_privs : List (MethodName × Nat) := lw_privs_1 ++ (lw_privs_2 ++ (lw_privs_3 ++ (lw_privs_4 ++ (lw_privs_5 ++ (lw_privs_6)))))
def lw_tbl : List Cond := k2_sels lw_privs ++ tables_1
theorem lw_privs_ok : ∀ q ∈ lw_privs, lw_okq q := by
  show ∀ q ∈ lw_privs_1 ++ (lw_privs_2 ++ (lw_privs_3 ++ (lw_privs_4 ++ (lw_privs_5 ++ (lw_privs_6))))), lw_okq q
  exact List.forall_mem_append.mpr ⟨lw_r1, List.forall_mem_append.mpr ⟨lw_r2, List.forall_mem_append.mpr ⟨lw_r3, List.forall_mem_append.mpr ⟨lw_r4, List.forall_mem_append.mpr ⟨lw_r5, lw_r6⟩⟩⟩⟩⟩
def RX0 : String := "AfterEachVowel$Judge"
def TX0 : u_T := fun k => match k with
  | _ => ("AfterEachVowel$Judge", "facts", "[I", true)
def tyX0 : Nat → FieldType := fun k => match k with
  | _ => .array .int
abbrev wsX00 : List Cond := u_ws RX0 TX0 1
theorem nmX0 : ∀ a, a < 1 → ∀ b, b < 1 → a ≠ b → (TX0 a).2.1 ≠ (TX0 b).2.1 := by decide +kernel
theorem tyX0_ok : ∀ k, k < 1 → parseFieldDescriptor (TX0 k).2.2.1 = some (tyX0 k) := by decide +kernel
abbrev cX0_init : ByteArray := prog_2_method_1_code
def yX0_init : MethodName := ⟨RX0, "<init>", "()V"⟩
abbrev cX0_regard : ByteArray := prog_2_method_2_code
def yX0_regard : MethodName := ⟨RX0, "regard", "(LAfterEachVowel$State;LAfterEachVowel$Row;ILAfterEachVowel$Saying;)V"⟩
abbrev cX0_hard : ByteArray := prog_2_method_3_code
def yX0_hard : MethodName := ⟨RX0, "hard", "(LAfterEachVowel$State;LAfterEachVowel$Row;LAfterEachVowel$Text;)I"⟩
abbrev cX0_hardBy : ByteArray := prog_2_method_4_code
def yX0_hardBy : MethodName := ⟨RX0, "hardBy", "(III)I"⟩
abbrev cX0_worth : ByteArray := prog_2_method_5_code
def yX0_worth : MethodName := ⟨RX0, "worth", "(LAfterEachVowel$State;LAfterEachVowel$Row;LAfterEachVowel$Text;LAfterEachVowel$Sayings;)I"⟩
def RX1 : String := "AfterEachVowel$Orders"
def TX1 : u_T := fun k => match k with
  | 0 => ("AfterEachVowel$Orders", "stages", "[LAfterEachVowel$Sayings;", true)
  | 1 => ("AfterEachVowel$Orders", "way", "LAfterEachVowel$Row;", true)
  | 2 => ("AfterEachVowel$Orders", "judge", "LAfterEachVowel$Judge;", true)
  | 3 => ("AfterEachVowel$Orders", "isFirst", "Z", false)
  | 4 => ("AfterEachVowel$Orders", "most", "I", false)
  | _ => ("AfterEachVowel$Orders", "best", "I", false)
def tyX1 : Nat → FieldType := fun k => match k with
  | 0 => .array (.object "AfterEachVowel$Sayings")
  | 1 => .object "AfterEachVowel$Row"
  | 2 => .object "AfterEachVowel$Judge"
  | 3 => .boolean
  | 4 => .int
  | _ => .int
abbrev wsX10 : List Cond := u_ws RX1 TX1 6
theorem nmX1 : ∀ a, a < 6 → ∀ b, b < 6 → a ≠ b → (TX1 a).2.1 ≠ (TX1 b).2.1 := by decide +kernel
theorem tyX1_ok : ∀ k, k < 6 → parseFieldDescriptor (TX1 k).2.2.1 = some (tyX1 k) := by decide +kernel
abbrev cX1_init : ByteArray := prog_3_method_1_code
def yX1_init : MethodName := ⟨RX1, "<init>", "()V"⟩
abbrev cX1_search : ByteArray := prog_3_method_2_code
def yX1_search : MethodName := ⟨RX1, "search", "(LAfterEachVowel$State;LAfterEachVowel$Text;)V"⟩
abbrev cX1_goOn : ByteArray := prog_3_method_3_code
def yX1_goOn : MethodName := ⟨RX1, "goOn", "(LAfterEachVowel$State;LAfterEachVowel$Text;III)V"⟩
abbrev cX1_keepBetter : ByteArray := prog_3_method_4_code
def yX1_keepBetter : MethodName := ⟨RX1, "keepBetter", "(II)V"⟩
def RX2 : String := "AfterEachVowel$Parser"
def TX2 : u_T := fun k => match k with
  | 0 => ("AfterEachVowel$Parser", "tape", "LAfterEachVowel$Tape;", false)
  | 1 => ("AfterEachVowel$Parser", "target", "LAfterEachVowel$Text;", false)
  | 2 => ("AfterEachVowel$Parser", "at", "I", false)
  | _ => ("AfterEachVowel$Parser", "open", "I", false)
def tyX2 : Nat → FieldType := fun k => match k with
  | 0 => .object "AfterEachVowel$Tape"
  | 1 => .object "AfterEachVowel$Text"
  | 2 => .int
  | _ => .int
abbrev wsX20 : List Cond := u_ws RX2 TX2 4
theorem nmX2 : ∀ a, a < 4 → ∀ b, b < 4 → a ≠ b → (TX2 a).2.1 ≠ (TX2 b).2.1 := by decide +kernel
theorem tyX2_ok : ∀ k, k < 4 → parseFieldDescriptor (TX2 k).2.2.1 = some (tyX2 k) := by decide +kernel
abbrev cX2_init : ByteArray := prog_4_method_1_code
def yX2_init : MethodName := ⟨RX2, "<init>", "()V"⟩
abbrev cX2_read : ByteArray := prog_4_method_2_code
def yX2_read : MethodName := ⟨RX2, "read", "(LAfterEachVowel$Tape;LAfterEachVowel$Text;)I"⟩
abbrev cX2_next : ByteArray := prog_4_method_3_code
def yX2_next : MethodName := ⟨RX2, "next", "()I"⟩
abbrev cX2_place : ByteArray := prog_4_method_4_code
def yX2_place : MethodName := ⟨RX2, "place", "()I"⟩
abbrev cX2_take : ByteArray := prog_4_method_5_code
def yX2_take : MethodName := ⟨RX2, "take", "(I)Z"⟩
abbrev cX2_takeOpening : ByteArray := prog_4_method_6_code
def yX2_takeOpening : MethodName := ⟨RX2, "takeOpening", "()Z"⟩
abbrev cX2_readPart : ByteArray := prog_4_method_7_code
def yX2_readPart : MethodName := ⟨RX2, "readPart", "(II)Z"⟩
abbrev cX2_joined : ByteArray := prog_4_method_8_code
def yX2_joined : MethodName := ⟨RX2, "joined", "(III)I"⟩
abbrev cX2_readE : ByteArray := prog_4_method_9_code
def yX2_readE : MethodName := ⟨RX2, "readE", "()I"⟩
abbrev cX2_readAnd : ByteArray := prog_4_method_10_code
def yX2_readAnd : MethodName := ⟨RX2, "readAnd", "()I"⟩
abbrev cX2_readNot : ByteArray := prog_4_method_11_code
def yX2_readNot : MethodName := ⟨RX2, "readNot", "()I"⟩
abbrev cX2_readComparison : ByteArray := prog_4_method_12_code
def yX2_readComparison : MethodName := ⟨RX2, "readComparison", "()I"⟩
abbrev cX2_readSum : ByteArray := prog_4_method_13_code
def yX2_readSum : MethodName := ⟨RX2, "readSum", "()I"⟩
abbrev cX2_readTerm : ByteArray := prog_4_method_14_code
def yX2_readTerm : MethodName := ⟨RX2, "readTerm", "()I"⟩
abbrev cX2_readOne : ByteArray := prog_4_method_15_code
def yX2_readOne : MethodName := ⟨RX2, "readOne", "()I"⟩
abbrev cX2_readValue : ByteArray := prog_4_method_16_code
def yX2_readValue : MethodName := ⟨RX2, "readValue", "(I)I"⟩
abbrev cX2_closed : ByteArray := prog_4_method_17_code
def yX2_closed : MethodName := ⟨RX2, "closed", "(II)I"⟩
abbrev cX2_readToClosing : ByteArray := prog_4_method_18_code
def yX2_readToClosing : MethodName := ⟨RX2, "readToClosing", "()I"⟩
def RX3 : String := "AfterEachVowel$Row"
def TX3 : u_T := fun k => match k with
  | 0 => ("AfterEachVowel$Row", "rules", "[I", true)
  | _ => ("AfterEachVowel$Row", "size", "I", false)
def tyX3 : Nat → FieldType := fun k => match k with
  | 0 => .array .int
  | _ => .int
abbrev wsX30 : List Cond := u_ws RX3 TX3 2
theorem nmX3 : ∀ a, a < 2 → ∀ b, b < 2 → a ≠ b → (TX3 a).2.1 ≠ (TX3 b).2.1 := by decide +kernel
theorem tyX3_ok : ∀ k, k < 2 → parseFieldDescriptor (TX3 k).2.2.1 = some (tyX3 k) := by decide +kernel
abbrev cX3_init : ByteArray := prog_5_method_1_code
def yX3_init : MethodName := ⟨RX3, "<init>", "()V"⟩
abbrev cX3_push : ByteArray := prog_5_method_2_code
def yX3_push : MethodName := ⟨RX3, "push", "(I)V"⟩
abbrev cX3_last : ByteArray := prog_5_method_3_code
def yX3_last : MethodName := ⟨RX3, "last", "()I"⟩
abbrev cX3_become : ByteArray := prog_5_method_4_code
def yX3_become : MethodName := ⟨RX3, "become", "(LAfterEachVowel$Row;)V"⟩
abbrev cX3_becomeWithout : ByteArray := prog_5_method_5_code
def yX3_becomeWithout : MethodName := ⟨RX3, "becomeWithout", "(LAfterEachVowel$Row;I)V"⟩
abbrev cX3_draw : ByteArray := prog_5_method_6_code
def yX3_draw : MethodName := ⟨RX3, "draw", "(II)V"⟩
abbrev cX3_following : ByteArray := prog_5_method_7_code
def yX3_following : MethodName := ⟨RX3, "following", "(I)I"⟩
def RX4 : String := "AfterEachVowel$Saying"
def TX4 : u_T := fun k => match k with
  | 0 => ("AfterEachVowel$Saying", "letters", "[I", true)
  | _ => ("AfterEachVowel$Saying", "size", "I", false)
def tyX4 : Nat → FieldType := fun k => match k with
  | 0 => .array .int
  | _ => .int
abbrev wsX40 : List Cond := u_ws RX4 TX4 2
theorem nmX4 : ∀ a, a < 2 → ∀ b, b < 2 → a ≠ b → (TX4 a).2.1 ≠ (TX4 b).2.1 := by decide +kernel
theorem tyX4_ok : ∀ k, k < 2 → parseFieldDescriptor (TX4 k).2.2.1 = some (tyX4 k) := by decide +kernel
abbrev cX4_init : ByteArray := prog_6_method_1_code
def yX4_init : MethodName := ⟨RX4, "<init>", "()V"⟩
abbrev cX4_isTooLong : ByteArray := prog_6_method_2_code
def yX4_isTooLong : MethodName := ⟨RX4, "isTooLong", "()Z"⟩
abbrev cX4_begin : ByteArray := prog_6_method_3_code
def yX4_begin : MethodName := ⟨RX4, "begin", "(LAfterEachVowel$State;I)V"⟩
abbrev cX4_say : ByteArray := prog_6_method_4_code
def yX4_say : MethodName := ⟨RX4, "say", "(LAfterEachVowel$State;LAfterEachVowel$Row;I)V"⟩
abbrev cX4_sayByOne : ByteArray := prog_6_method_5_code
def yX4_sayByOne : MethodName := ⟨RX4, "sayByOne", "(LAfterEachVowel$State;II)V"⟩
abbrev cX4_become : ByteArray := prog_6_method_6_code
def yX4_become : MethodName := ⟨RX4, "become", "(LAfterEachVowel$Saying;)V"⟩
abbrev cX4_turnByRow : ByteArray := prog_6_method_7_code
def yX4_turnByRow : MethodName := ⟨RX4, "turnByRow", "(LAfterEachVowel$State;LAfterEachVowel$Row;)V"⟩
abbrev cX4_turn : ByteArray := prog_6_method_8_code
def yX4_turn : MethodName := ⟨RX4, "turn", "(LAfterEachVowel$State;I)V"⟩
abbrev cX4_vowelCount : ByteArray := prog_6_method_9_code
def yX4_vowelCount : MethodName := ⟨RX4, "vowelCount", "(I)I"⟩
abbrev cX4_putAfterVowels : ByteArray := prog_6_method_10_code
def yX4_putAfterVowels : MethodName := ⟨RX4, "putAfterVowels", "(II)V"⟩
abbrev cX4_repeatFirst : ByteArray := prog_6_method_11_code
def yX4_repeatFirst : MethodName := ⟨RX4, "repeatFirst", "()V"⟩
abbrev cX4_shift : ByteArray := prog_6_method_12_code
def yX4_shift : MethodName := ⟨RX4, "shift", "(I)V"⟩
abbrev cX4_shiftVowels : ByteArray := prog_6_method_13_code
def yX4_shiftVowels : MethodName := ⟨RX4, "shiftVowels", "(II)V"⟩
abbrev cX4_reverse : ByteArray := prog_6_method_14_code
def yX4_reverse : MethodName := ⟨RX4, "reverse", "()V"⟩
abbrev cX4_answer : ByteArray := prog_6_method_15_code
def yX4_answer : MethodName := ⟨RX4, "answer", "(I)I"⟩
abbrev cX4_isLike : ByteArray := prog_6_method_16_code
def yX4_isLike : MethodName := ⟨RX4, "isLike", "(LAfterEachVowel$Saying;)Z"⟩
abbrev cX4_isWord : ByteArray := prog_6_method_17_code
def yX4_isWord : MethodName := ⟨RX4, "isWord", "(LAfterEachVowel$State;I)Z"⟩
abbrev cX4_differences : ByteArray := prog_6_method_18_code
def yX4_differences : MethodName := ⟨RX4, "differences", "(LAfterEachVowel$Saying;)I"⟩
def RX5 : String := "AfterEachVowel$Sayings"
def TX5 : u_T := fun k => match k with
  | 0 => ("AfterEachVowel$Sayings", "each", "[LAfterEachVowel$Saying;", true)
  | _ => ("AfterEachVowel$Sayings", "size", "I", false)
def tyX5 : Nat → FieldType := fun k => match k with
  | 0 => .array (.object "AfterEachVowel$Saying")
  | _ => .int
abbrev wsX50 : List Cond := u_ws RX5 TX5 2
theorem nmX5 : ∀ a, a < 2 → ∀ b, b < 2 → a ≠ b → (TX5 a).2.1 ≠ (TX5 b).2.1 := by decide +kernel
theorem tyX5_ok : ∀ k, k < 2 → parseFieldDescriptor (TX5 k).2.2.1 = some (tyX5 k) := by decide +kernel
abbrev cX5_init : ByteArray := prog_7_method_1_code
def yX5_init : MethodName := ⟨RX5, "<init>", "()V"⟩
abbrev cX5_begin : ByteArray := prog_7_method_2_code
def yX5_begin : MethodName := ⟨RX5, "begin", "(LAfterEachVowel$State;)V"⟩
abbrev cX5_sayAll : ByteArray := prog_7_method_3_code
def yX5_sayAll : MethodName := ⟨RX5, "sayAll", "(LAfterEachVowel$State;LAfterEachVowel$Row;)V"⟩
abbrev cX5_becomeTurned : ByteArray := prog_7_method_4_code
def yX5_becomeTurned : MethodName := ⟨RX5, "becomeTurned", "(LAfterEachVowel$Sayings;LAfterEachVowel$State;I)V"⟩
abbrev cX5_alike : ByteArray := prog_7_method_5_code
def yX5_alike : MethodName := ⟨RX5, "alike", "()I"⟩
abbrev cX5_apart : ByteArray := prog_7_method_6_code
def yX5_apart : MethodName := ⟨RX5, "apart", "()I"⟩
abbrev cX5_tooLong : ByteArray := prog_7_method_7_code
def yX5_tooLong : MethodName := ⟨RX5, "tooLong", "()I"⟩
abbrev cX5_hasAnother : ByteArray := prog_7_method_8_code
def yX5_hasAnother : MethodName := ⟨RX5, "hasAnother", "(LAfterEachVowel$Saying;I)Z"⟩
def RX6 : String := "AfterEachVowel$Sheet"
def TX6 : u_T := fun k => match k with
  | 0 => ("AfterEachVowel$Sheet", "items", "[I", true)
  | 1 => ("AfterEachVowel$Sheet", "sort", "I", false)
  | _ => ("AfterEachVowel$Sheet", "size", "I", false)
def tyX6 : Nat → FieldType := fun k => match k with
  | 0 => .array .int
  | 1 => .int
  | _ => .int
abbrev wsX60 : List Cond := u_ws RX6 TX6 3
theorem nmX6 : ∀ a, a < 3 → ∀ b, b < 3 → a ≠ b → (TX6 a).2.1 ≠ (TX6 b).2.1 := by decide +kernel
theorem tyX6_ok : ∀ k, k < 3 → parseFieldDescriptor (TX6 k).2.2.1 = some (tyX6 k) := by decide +kernel
abbrev cX6_init : ByteArray := prog_8_method_1_code
def yX6_init : MethodName := ⟨RX6, "<init>", "()V"⟩
abbrev cX6_isMissing : ByteArray := prog_8_method_2_code
def yX6_isMissing : MethodName := ⟨RX6, "isMissing", "()Z"⟩
abbrev cX6_become : ByteArray := prog_8_method_3_code
def yX6_become : MethodName := ⟨RX6, "become", "(II)V"⟩
abbrev cX6_becomeSaying : ByteArray := prog_8_method_4_code
def yX6_becomeSaying : MethodName := ⟨RX6, "becomeSaying", "(LAfterEachVowel$Saying;)V"⟩
abbrev cX6_put : ByteArray := prog_8_method_5_code
def yX6_put : MethodName := ⟨RX6, "put", "(II)V"⟩
abbrev cX6_holds : ByteArray := prog_8_method_6_code
def yX6_holds : MethodName := ⟨RX6, "holds", "(II)Z"⟩
abbrev cX6_tellsWord : ByteArray := prog_8_method_7_code
def yX6_tellsWord : MethodName := ⟨RX6, "tellsWord", "()Z"⟩
abbrev cX6_tells : ByteArray := prog_8_method_8_code
def yX6_tells : MethodName := ⟨RX6, "tells", "(LAfterEachVowel$Saying;)Z"⟩
def RX7 : String := "AfterEachVowel$State"
def TX7 : u_T := fun k => match k with
  | 0 => ("AfterEachVowel$State", "vowels", "I", false)
  | 1 => ("AfterEachVowel$State", "letters", "[[I", true)
  | 2 => ("AfterEachVowel$State", "sizes", "[I", true)
  | 3 => ("AfterEachVowel$State", "weights", "[I", true)
  | 4 => ("AfterEachVowel$State", "words", "I", false)
  | 5 => ("AfterEachVowel$State", "kinds", "[I", true)
  | 6 => ("AfterEachVowel$State", "ruleLetters", "[I", true)
  | 7 => ("AfterEachVowel$State", "numbers", "[I", true)
  | 8 => ("AfterEachVowel$State", "rules", "I", false)
  | 9 => ("AfterEachVowel$State", "row", "LAfterEachVowel$Row;", true)
  | _ => ("AfterEachVowel$State", "law", "I", false)
def tyX7 : Nat → FieldType := fun k => match k with
  | 0 => .int
  | 1 => .array (.array .int)
  | 2 => .array .int
  | 3 => .array .int
  | 4 => .int
  | 5 => .array .int
  | 6 => .array .int
  | 7 => .array .int
  | 8 => .int
  | 9 => .object "AfterEachVowel$Row"
  | _ => .int
abbrev wsX70 : List Cond := u_ws RX7 TX7 11
theorem nmX7 : ∀ a, a < 11 → ∀ b, b < 11 → a ≠ b → (TX7 a).2.1 ≠ (TX7 b).2.1 := by decide +kernel
theorem tyX7_ok : ∀ k, k < 11 → parseFieldDescriptor (TX7 k).2.2.1 = some (tyX7 k) := by decide +kernel
abbrev cX7_init : ByteArray := prog_9_method_1_code
def yX7_init : MethodName := ⟨RX7, "<init>", "()V"⟩
abbrev cX7_hasWord : ByteArray := prog_9_method_2_code
def yX7_hasWord : MethodName := ⟨RX7, "hasWord", "(I)Z"⟩
abbrev cX7_hasRule : ByteArray := prog_9_method_3_code
def yX7_hasRule : MethodName := ⟨RX7, "hasRule", "(I)Z"⟩
abbrev cX7_addWord : ByteArray := prog_9_method_4_code
def yX7_addWord : MethodName := ⟨RX7, "addWord", "(LAfterEachVowel$Sheet;I)I"⟩
abbrev cX7_addRule : ByteArray := prog_9_method_5_code
def yX7_addRule : MethodName := ⟨RX7, "addRule", "(III)I"⟩
abbrev cX7_letterOf : ByteArray := prog_9_method_6_code
def yX7_letterOf : MethodName := ⟨RX7, "letterOf", "(II)I"⟩
abbrev cX7_hasPart : ByteArray := prog_9_method_7_code
def yX7_hasPart : MethodName := ⟨RX7, "hasPart", "(II)Z"⟩
abbrev cX7_canHold : ByteArray := prog_9_method_8_code
def yX7_canHold : MethodName := ⟨RX7, "canHold", "(II)Z"⟩
abbrev cX7_part : ByteArray := prog_9_method_9_code
def yX7_part : MethodName := ⟨RX7, "part", "(II)I"⟩
abbrev cX7_change : ByteArray := prog_9_method_10_code
def yX7_change : MethodName := ⟨RX7, "change", "(III)V"⟩
abbrev cX7_become : ByteArray := prog_9_method_11_code
def yX7_become : MethodName := ⟨RX7, "become", "(LAfterEachVowel$State;)V"⟩
def RX8 : String := "AfterEachVowel$Tape"
def TX8 : u_T := fun k => match k with
  | 0 => ("AfterEachVowel$Tape", "bytes", "[I", true)
  | 1 => ("AfterEachVowel$Tape", "size", "I", false)
  | 2 => ("AfterEachVowel$Tape", "kinds", "[I", true)
  | 3 => ("AfterEachVowel$Tape", "values", "[I", true)
  | 4 => ("AfterEachVowel$Tape", "places", "[I", true)
  | _ => ("AfterEachVowel$Tape", "tokens", "I", false)
def tyX8 : Nat → FieldType := fun k => match k with
  | 0 => .array .int
  | 1 => .int
  | 2 => .array .int
  | 3 => .array .int
  | 4 => .array .int
  | _ => .int
abbrev wsX80 : List Cond := u_ws RX8 TX8 6
theorem nmX8 : ∀ a, a < 6 → ∀ b, b < 6 → a ≠ b → (TX8 a).2.1 ≠ (TX8 b).2.1 := by decide +kernel
theorem tyX8_ok : ∀ k, k < 6 → parseFieldDescriptor (TX8 k).2.2.1 = some (tyX8 k) := by decide +kernel
abbrev cX8_init : ByteArray := prog_10_method_1_code
def yX8_init : MethodName := ⟨RX8, "<init>", "()V"⟩
abbrev cX8_put : ByteArray := prog_10_method_2_code
def yX8_put : MethodName := ⟨RX8, "put", "(I)V"⟩
abbrev cX8_scan : ByteArray := prog_10_method_3_code
def yX8_scan : MethodName := ⟨RX8, "scan", "()V"⟩
abbrev cX8_afterBlanks : ByteArray := prog_10_method_4_code
def yX8_afterBlanks : MethodName := ⟨RX8, "afterBlanks", "(I)I"⟩
abbrev cX8_scanToken : ByteArray := prog_10_method_5_code
def yX8_scanToken : MethodName := ⟨RX8, "scanToken", "(I)I"⟩
abbrev cX8_scanWord : ByteArray := prog_10_method_6_code
def yX8_scanWord : MethodName := ⟨RX8, "scanWord", "(I)I"⟩
abbrev cX8_scanNumber : ByteArray := prog_10_method_7_code
def yX8_scanNumber : MethodName := ⟨RX8, "scanNumber", "(I)I"⟩
abbrev cX8_addToken : ByteArray := prog_10_method_8_code
def yX8_addToken : MethodName := ⟨RX8, "addToken", "(IIII)I"⟩
abbrev cX8_isSpelled : ByteArray := prog_10_method_9_code
def yX8_isSpelled : MethodName := ⟨RX8, "isSpelled", "(Ljava/lang/String;II)Z"⟩
abbrev cX8_spelling : ByteArray := prog_10_method_10_code
def yX8_spelling : MethodName := ⟨RX8, "spelling", "(I)Ljava/lang/String;"⟩
def RX9 : String := "AfterEachVowel$Text"
def TX9 : u_T := fun k => match k with
  | 0 => ("AfterEachVowel$Text", "ops", "[I", true)
  | 1 => ("AfterEachVowel$Text", "lefts", "[I", true)
  | 2 => ("AfterEachVowel$Text", "rights", "[I", true)
  | 3 => ("AfterEachVowel$Text", "values", "[I", true)
  | 4 => ("AfterEachVowel$Text", "ends", "[I", true)
  | _ => ("AfterEachVowel$Text", "size", "I", false)
def tyX9 : Nat → FieldType := fun k => match k with
  | 0 => .array .int
  | 1 => .array .int
  | 2 => .array .int
  | 3 => .array .int
  | 4 => .array .int
  | _ => .int
abbrev wsX90 : List Cond := u_ws RX9 TX9 6
theorem nmX9 : ∀ a, a < 6 → ∀ b, b < 6 → a ≠ b → (TX9 a).2.1 ≠ (TX9 b).2.1 := by decide +kernel
theorem tyX9_ok : ∀ k, k < 6 → parseFieldDescriptor (TX9 k).2.2.1 = some (tyX9 k) := by decide +kernel
abbrev cX9_init : ByteArray := prog_11_method_1_code
def yX9_init : MethodName := ⟨RX9, "<init>", "()V"⟩
abbrev cX9_empty : ByteArray := prog_11_method_2_code
def yX9_empty : MethodName := ⟨RX9, "empty", "()V"⟩
abbrev cX9_add : ByteArray := prog_11_method_3_code
def yX9_add : MethodName := ⟨RX9, "add", "(III)I"⟩
abbrev cX9_endPart : ByteArray := prog_11_method_4_code
def yX9_endPart : MethodName := ⟨RX9, "endPart", "(I)V"⟩
abbrev cX9_tells : ByteArray := prog_11_method_5_code
def yX9_tells : MethodName := ⟨RX9, "tells", "(I[I)I"⟩
abbrev cX9_worked : ByteArray := prog_11_method_6_code
def yX9_worked : MethodName := ⟨RX9, "worked", "(III[I)I"⟩
def RX10 : String := "AfterEachVowel"
def TX10 : u_T := fun k => match k with
  | 0 => ("AfterEachVowel", "now", "LAfterEachVowel$State;", true)
  | 1 => ("AfterEachVowel", "kept", "LAfterEachVowel$State;", true)
  | 2 => ("AfterEachVowel", "isKept", "Z", false)
  | 3 => ("AfterEachVowel", "texts", "[LAfterEachVowel$Text;", true)
  | 4 => ("AfterEachVowel", "textCount", "I", false)
  | 5 => ("AfterEachVowel", "tape", "LAfterEachVowel$Tape;", true)
  | 6 => ("AfterEachVowel", "parser", "LAfterEachVowel$Parser;", true)
  | 7 => ("AfterEachVowel", "sheets", "[LAfterEachVowel$Sheet;", true)
  | 8 => ("AfterEachVowel", "sayings", "LAfterEachVowel$Sayings;", true)
  | 9 => ("AfterEachVowel", "spare", "LAfterEachVowel$Saying;", true)
  | 10 => ("AfterEachVowel", "supposed", "LAfterEachVowel$Row;", true)
  | 11 => ("AfterEachVowel", "judge", "LAfterEachVowel$Judge;", true)
  | _ => ("AfterEachVowel", "orders", "LAfterEachVowel$Orders;", true)
def tyX10 : Nat → FieldType := fun k => match k with
  | 0 => .object "AfterEachVowel$State"
  | 1 => .object "AfterEachVowel$State"
  | 2 => .boolean
  | 3 => .array (.object "AfterEachVowel$Text")
  | 4 => .int
  | 5 => .object "AfterEachVowel$Tape"
  | 6 => .object "AfterEachVowel$Parser"
  | 7 => .array (.object "AfterEachVowel$Sheet")
  | 8 => .object "AfterEachVowel$Sayings"
  | 9 => .object "AfterEachVowel$Saying"
  | 10 => .object "AfterEachVowel$Row"
  | 11 => .object "AfterEachVowel$Judge"
  | _ => .object "AfterEachVowel$Orders"
abbrev wsX100 : List Cond := u_ws RX10 TX10 13
theorem nmX10 : ∀ a, a < 13 → ∀ b, b < 13 → a ≠ b → (TX10 a).2.1 ≠ (TX10 b).2.1 := by decide +kernel
theorem tyX10_ok : ∀ k, k < 13 → parseFieldDescriptor (TX10 k).2.2.1 = some (tyX10 k) := by decide +kernel
abbrev cX10_init : ByteArray := prog_1_method_1_code
def yX10_init : MethodName := ⟨RX10, "<init>", "()V"⟩
abbrev cX10_learn : ByteArray := prog_1_method_2_code
def yX10_learn : MethodName := ⟨RX10, "learn", "(II)I"⟩
abbrev cX10_rule : ByteArray := prog_1_method_3_code
def yX10_rule : MethodName := ⟨RX10, "rule", "(III)I"⟩
abbrev cX10_then : ByteArray := prog_1_method_4_code
def yX10_then : MethodName := ⟨RX10, "then", "(I)I"⟩
abbrev cX10_clear : ByteArray := prog_1_method_5_code
def yX10_clear : MethodName := ⟨RX10, "clear", "()I"⟩
abbrev cX10_set : ByteArray := prog_1_method_6_code
def yX10_set : MethodName := ⟨RX10, "set", "(III)I"⟩
abbrev cX10_told : ByteArray := prog_1_method_7_code
def yX10_told : MethodName := ⟨RX10, "told", "(II)I"⟩
abbrev cX10_feed : ByteArray := prog_1_method_8_code
def yX10_feed : MethodName := ⟨RX10, "feed", "(I)I"⟩
abbrev cX10_text : ByteArray := prog_1_method_9_code
def yX10_text : MethodName := ⟨RX10, "text", "()I"⟩
abbrev cX10_force : ByteArray := prog_1_method_10_code
def yX10_force : MethodName := ⟨RX10, "force", "(I)I"⟩
abbrev cX10_said : ByteArray := prog_1_method_11_code
def yX10_said : MethodName := ⟨RX10, "said", "(II)I"⟩
abbrev cX10_turned : ByteArray := prog_1_method_12_code
def yX10_turned : MethodName := ⟨RX10, "turned", "(III)I"⟩
abbrev cX10_of : ByteArray := prog_1_method_13_code
def yX10_of : MethodName := ⟨RX10, "of", "(II)I"⟩
abbrev cX10_all : ByteArray := prog_1_method_14_code
def yX10_all : MethodName := ⟨RX10, "all", "(I)I"⟩
abbrev cX10_leave : ByteArray := prog_1_method_15_code
def yX10_leave : MethodName := ⟨RX10, "leave", "(I)I"⟩
abbrev cX10_order : ByteArray := prog_1_method_16_code
def yX10_order : MethodName := ⟨RX10, "order", "(I)I"⟩
abbrev cX10_letter : ByteArray := prog_1_method_17_code
def yX10_letter : MethodName := ⟨RX10, "letter", "(II)I"⟩
abbrev cX10_heard : ByteArray := prog_1_method_18_code
def yX10_heard : MethodName := ⟨RX10, "heard", "(II)I"⟩
abbrev cX10_found : ByteArray := prog_1_method_19_code
def yX10_found : MethodName := ⟨RX10, "found", "(IIII)I"⟩
abbrev cX10_alikeTexts : ByteArray := prog_1_method_20_code
def yX10_alikeTexts : MethodName := ⟨RX10, "alikeTexts", "()I"⟩
abbrev cX10_film : ByteArray := prog_1_method_21_code
def yX10_film : MethodName := ⟨RX10, "film", "(II)I"⟩
abbrev cX10_drawn : ByteArray := prog_1_method_22_code
def yX10_drawn : MethodName := ⟨RX10, "drawn", "(I)I"⟩
abbrev cX10_chance : ByteArray := prog_1_method_23_code
def yX10_chance : MethodName := ⟨RX10, "chance", "(III)J"⟩
abbrev cX10_image : ByteArray := prog_1_method_24_code
def yX10_image : MethodName := ⟨RX10, "image", "()I"⟩
abbrev cX10_back : ByteArray := prog_1_method_25_code
def yX10_back : MethodName := ⟨RX10, "back", "()I"⟩
abbrev cX10_count : ByteArray := prog_1_method_26_code
def yX10_count : MethodName := ⟨RX10, "count", "(I)I"⟩
abbrev cX10_sheet : ByteArray := prog_1_method_27_code
def yX10_sheet : MethodName := ⟨RX10, "sheet", "(III)I"⟩
abbrev cX10_cell : ByteArray := prog_1_method_28_code
def yX10_cell : MethodName := ⟨RX10, "cell", "(III)I"⟩
abbrev cX10_copy : ByteArray := prog_1_method_29_code
def yX10_copy : MethodName := ⟨RX10, "copy", "(IIIII)I"⟩
abbrev cX10_rules : ByteArray := prog_1_method_30_code
def yX10_rules : MethodName := ⟨RX10, "rules", "(IIII)I"⟩
abbrev cX10_taken : ByteArray := prog_1_method_31_code
def yX10_taken : MethodName := ⟨RX10, "taken", "(II)I"⟩
abbrev cX10_isWithin : ByteArray := prog_1_method_32_code
def yX10_isWithin : MethodName := ⟨RX10, "isWithin", "(II)Z"⟩
abbrev cX10_isSheet : ByteArray := prog_1_method_33_code
def yX10_isSheet : MethodName := ⟨RX10, "isSheet", "(I)Z"⟩
abbrev cX10_isLetter : ByteArray := prog_1_method_34_code
def yX10_isLetter : MethodName := ⟨RX10, "isLetter", "(I)Z"⟩
abbrev cX10_isRule : ByteArray := prog_1_method_35_code
def yX10_isRule : MethodName := ⟨RX10, "isRule", "(III)Z"⟩
abbrev cX10_isSaidPlace : ByteArray := prog_1_method_36_code
def yX10_isSaidPlace : MethodName := ⟨RX10, "isSaidPlace", "(I)Z"⟩
abbrev cX10_isUnder : ByteArray := prog_1_method_37_code
def yX10_isUnder : MethodName := ⟨RX10, "isUnder", "(II)Z"⟩
abbrev cX10_commonDivisor : ByteArray := prog_1_method_38_code
def yX10_commonDivisor : MethodName := ⟨RX10, "commonDivisor", "(II)I"⟩
abbrev cX10_law : ByteArray := prog_1_method_39_code
def yX10_law : MethodName := ⟨RX10, "law", "()LAfterEachVowel$Text;"⟩
abbrev cX10_worthBy : ByteArray := prog_1_method_40_code
def yX10_worthBy : MethodName := ⟨RX10, "worthBy", "(LAfterEachVowel$Row;)I"⟩
abbrev cX10_judged : ByteArray := prog_1_method_41_code
def yX10_judged : MethodName := ⟨RX10, "judged", "(II)I"⟩
abbrev cX10_roundOf : ByteArray := prog_1_method_42_code
def yX10_roundOf : MethodName := ⟨RX10, "roundOf", "(I)I"⟩
abbrev cX10_safeLetters : ByteArray := prog_1_method_43_code
def yX10_safeLetters : MethodName := ⟨RX10, "safeLetters", "(I)I"⟩
abbrev cX10_isSafe : ByteArray := prog_1_method_44_code
def yX10_isSafe : MethodName := ⟨RX10, "isSafe", "(II)Z"⟩
abbrev cX10_idleRules : ByteArray := prog_1_method_45_code
def yX10_idleRules : MethodName := ⟨RX10, "idleRules", "()I"⟩
abbrev cX10_isIdle : ByteArray := prog_1_method_46_code
def yX10_isIdle : MethodName := ⟨RX10, "isIdle", "(I)Z"⟩
abbrev cX10_wordsSaidAs : ByteArray := prog_1_method_47_code
def yX10_wordsSaidAs : MethodName := ⟨RX10, "wordsSaidAs", "(LAfterEachVowel$Sheet;)I"⟩
abbrev cX10_wordsTurningTo : ByteArray := prog_1_method_48_code
def yX10_wordsTurningTo : MethodName := ⟨RX10, "wordsTurningTo", "(LAfterEachVowel$Sheet;I)I"⟩
abbrev cX10_rulesTurningTo : ByteArray := prog_1_method_49_code
def yX10_rulesTurningTo : MethodName := ⟨RX10, "rulesTurningTo", "(LAfterEachVowel$Sheet;)I"⟩
abbrev cX10_pairsTurningTo : ByteArray := prog_1_method_50_code
def yX10_pairsTurningTo : MethodName := ⟨RX10, "pairsTurningTo", "(LAfterEachVowel$Sheet;)I"⟩
abbrev cX10_fitting : ByteArray := prog_1_method_51_code
def yX10_fitting : MethodName := ⟨RX10, "fitting", "(LAfterEachVowel$Sheet;I[III)I"⟩
def RX11 : String := "AfterEachVowelModel"
def TX11 : u_T := fun k => match k with
  | 0 => ("AfterEachVowelModel", "vowelBits", "I", false)
  | 1 => ("AfterEachVowelModel", "words", "I", false)
  | 2 => ("AfterEachVowelModel", "spelt", "[I", true)
  | 3 => ("AfterEachVowelModel", "sizeOf", "[I", true)
  | 4 => ("AfterEachVowelModel", "weight", "[I", true)
  | 5 => ("AfterEachVowelModel", "ruleMany", "I", false)
  | 6 => ("AfterEachVowelModel", "kind", "[I", true)
  | 7 => ("AfterEachVowelModel", "letterOf", "[I", true)
  | 8 => ("AfterEachVowelModel", "numberOf", "[I", true)
  | 9 => ("AfterEachVowelModel", "rowMany", "I", false)
  | 10 => ("AfterEachVowelModel", "row", "[I", true)
  | 11 => ("AfterEachVowelModel", "tape", "[I", true)
  | 12 => ("AfterEachVowelModel", "taped", "I", false)
  | 13 => ("AfterEachVowelModel", "texts", "I", false)
  | 14 => ("AfterEachVowelModel", "law", "I", false)
  | 15 => ("AfterEachVowelModel", "codes", "[I", true)
  | 16 => ("AfterEachVowelModel", "codeMany", "[I", true)
  | 17 => ("AfterEachVowelModel", "at", "I", false)
  | 18 => ("AfterEachVowelModel", "token", "I", false)
  | 19 => ("AfterEachVowelModel", "worth", "I", false)
  | 20 => ("AfterEachVowelModel", "place", "I", false)
  | 21 => ("AfterEachVowelModel", "letters", "[C", true)
  | 22 => ("AfterEachVowelModel", "begins", "[I", true)
  | 23 => ("AfterEachVowelModel", "waits", "[I", true)
  | 24 => ("AfterEachVowelModel", "waiting", "I", false)
  | 25 => ("AfterEachVowelModel", "open", "I", false)
  | 26 => ("AfterEachVowelModel", "depth", "I", false)
  | 27 => ("AfterEachVowelModel", "compared", "[Z", true)
  | 28 => ("AfterEachVowelModel", "codeAt", "I", false)
  | 29 => ("AfterEachVowelModel", "made", "I", false)
  | 30 => ("AfterEachVowelModel", "stack", "[I", true)
  | 31 => ("AfterEachVowelModel", "names", "[I", true)
  | 32 => ("AfterEachVowelModel", "saying", "[I", true)
  | 33 => ("AfterEachVowelModel", "longOf", "[I", true)
  | 34 => ("AfterEachVowelModel", "turning", "[I", true)
  | 35 => ("AfterEachVowelModel", "turnedInto", "[I", true)
  | 36 => ("AfterEachVowelModel", "turningMany", "I", false)
  | 37 => ("AfterEachVowelModel", "laid", "[I", true)
  | 38 => ("AfterEachVowelModel", "laidMany", "I", false)
  | 39 => ("AfterEachVowelModel", "kept", "Z", false)
  | 40 => ("AfterEachVowelModel", "keptRow", "[I", true)
  | 41 => ("AfterEachVowelModel", "sorts", "[I", true)
  | 42 => ("AfterEachVowelModel", "sizes", "[I", true)
  | 43 => ("AfterEachVowelModel", "items", "[I", true)
  | _ => ("AfterEachVowelModel", "moved", "[I", true)
def tyX11 : Nat → FieldType := fun k => match k with
  | 0 => .int
  | 1 => .int
  | 2 => .array .int
  | 3 => .array .int
  | 4 => .array .int
  | 5 => .int
  | 6 => .array .int
  | 7 => .array .int
  | 8 => .array .int
  | 9 => .int
  | 10 => .array .int
  | 11 => .array .int
  | 12 => .int
  | 13 => .int
  | 14 => .int
  | 15 => .array .int
  | 16 => .array .int
  | 17 => .int
  | 18 => .int
  | 19 => .int
  | 20 => .int
  | 21 => .array .char
  | 22 => .array .int
  | 23 => .array .int
  | 24 => .int
  | 25 => .int
  | 26 => .int
  | 27 => .array .boolean
  | 28 => .int
  | 29 => .int
  | 30 => .array .int
  | 31 => .array .int
  | 32 => .array .int
  | 33 => .array .int
  | 34 => .array .int
  | 35 => .array .int
  | 36 => .int
  | 37 => .array .int
  | 38 => .int
  | 39 => .boolean
  | 40 => .array .int
  | 41 => .array .int
  | 42 => .array .int
  | 43 => .array .int
  | _ => .array .int
abbrev wsX110 : List Cond := u_ws RX11 TX11 45
theorem nmX11 : ∀ a, a < 45 → ∀ b, b < 45 → a ≠ b → (TX11 a).2.1 ≠ (TX11 b).2.1 := by decide +kernel
theorem tyX11_ok : ∀ k, k < 45 → parseFieldDescriptor (TX11 k).2.2.1 = some (tyX11 k) := by decide +kernel
abbrev cX11_isIn : ByteArray := prog_13_method_1_code
def yX11_isIn : MethodName := ⟨RX11, "isIn", "(III)Z"⟩
abbrev cX11_isWord : ByteArray := prog_13_method_2_code
def yX11_isWord : MethodName := ⟨RX11, "isWord", "(I)Z"⟩
abbrev cX11_isRule : ByteArray := prog_13_method_3_code
def yX11_isRule : MethodName := ⟨RX11, "isRule", "(I)Z"⟩
abbrev cX11_learn : ByteArray := prog_13_method_4_code
def yX11_learn : MethodName := ⟨RX11, "learn", "(II)I"⟩
abbrev cX11_rule : ByteArray := prog_13_method_5_code
def yX11_rule : MethodName := ⟨RX11, "rule", "(III)I"⟩
abbrev cX11_then : ByteArray := prog_13_method_6_code
def yX11_then : MethodName := ⟨RX11, "then", "(I)I"⟩
abbrev cX11_clear : ByteArray := prog_13_method_7_code
def yX11_clear : MethodName := ⟨RX11, "clear", "()I"⟩
abbrev cX11_told : ByteArray := prog_13_method_8_code
def yX11_told : MethodName := ⟨RX11, "told", "(II)I"⟩
abbrev cX11_set : ByteArray := prog_13_method_9_code
def yX11_set : MethodName := ⟨RX11, "set", "(III)I"⟩
abbrev cX11_feed : ByteArray := prog_13_method_10_code
def yX11_feed : MethodName := ⟨RX11, "feed", "(I)I"⟩
abbrev cX11_isLetter : ByteArray := prog_13_method_11_code
def yX11_isLetter : MethodName := ⟨RX11, "isLetter", "(I)Z"⟩
abbrev cX11_isDigit : ByteArray := prog_13_method_12_code
def yX11_isDigit : MethodName := ⟨RX11, "isDigit", "(I)Z"⟩
abbrev cX11_readWord : ByteArray := prog_13_method_13_code
def yX11_readWord : MethodName := ⟨RX11, "readWord", "()V"⟩
abbrev cX11_readNumber : ByteArray := prog_13_method_14_code
def yX11_readNumber : MethodName := ⟨RX11, "readNumber", "()V"⟩
abbrev cX11_next : ByteArray := prog_13_method_15_code
def yX11_next : MethodName := ⟨RX11, "next", "()V"⟩
abbrev cX11_isSign : ByteArray := prog_13_method_16_code
def yX11_isSign : MethodName := ⟨RX11, "isSign", "(I)Z"⟩
abbrev cX11_isKey : ByteArray := prog_13_method_17_code
def yX11_isKey : MethodName := ⟨RX11, "isKey", "(I)Z"⟩
abbrev cX11_emit : ByteArray := prog_13_method_18_code
def yX11_emit : MethodName := ⟨RX11, "emit", "(I)V"⟩
abbrev cX11_rank : ByteArray := prog_13_method_19_code
def yX11_rank : MethodName := ⟨RX11, "rank", "(I)I"⟩
abbrev cX11_doAll : ByteArray := prog_13_method_20_code
def yX11_doAll : MethodName := ⟨RX11, "doAll", "(I)V"⟩
abbrev cX11_await : ByteArray := prog_13_method_21_code
def yX11_await : MethodName := ⟨RX11, "await", "(I)V"⟩
abbrev cX11_between : ByteArray := prog_13_method_22_code
def yX11_between : MethodName := ⟨RX11, "between", "()Z"⟩
abbrev cX11_closes : ByteArray := prog_13_method_23_code
def yX11_closes : MethodName := ⟨RX11, "closes", "()Z"⟩
abbrev cX11_ahead : ByteArray := prog_13_method_24_code
def yX11_ahead : MethodName := ⟨RX11, "ahead", "(Z)Z"⟩
abbrev cX11_readE : ByteArray := prog_13_method_25_code
def yX11_readE : MethodName := ⟨RX11, "readE", "(I)Z"⟩
abbrev cX11_readAll : ByteArray := prog_13_method_26_code
def yX11_readAll : MethodName := ⟨RX11, "readAll", "(I)I"⟩
abbrev cX11_text : ByteArray := prog_13_method_27_code
def yX11_text : MethodName := ⟨RX11, "text", "()I"⟩
abbrev cX11_force : ByteArray := prog_13_method_28_code
def yX11_force : MethodName := ⟨RX11, "force", "(I)I"⟩
abbrev cX11_init : ByteArray := prog_13_method_29_code
def yX11_init : MethodName := ⟨RX11, "<init>", "()V"⟩
abbrev cX11_done : ByteArray := prog_13_method_30_code
def yX11_done : MethodName := ⟨RX11, "done", "(III)I"⟩
abbrev cX11_says : ByteArray := prog_13_method_31_code
def yX11_says : MethodName := ⟨RX11, "says", "(II)I"⟩
abbrev cX11_isVowel : ByteArray := prog_13_method_32_code
def yX11_isVowel : MethodName := ⟨RX11, "isVowel", "(I)Z"⟩
abbrev cX11_turn : ByteArray := prog_13_method_33_code
def yX11_turn : MethodName := ⟨RX11, "turn", "(I)V"⟩
abbrev cX11_begin : ByteArray := prog_13_method_34_code
def yX11_begin : MethodName := ⟨RX11, "begin", "(I)V"⟩
abbrev cX11_turnByRow : ByteArray := prog_13_method_35_code
def yX11_turnByRow : MethodName := ⟨RX11, "turnByRow", "()V"⟩
abbrev cX11_say : ByteArray := prog_13_method_36_code
def yX11_say : MethodName := ⟨RX11, "say", "(I)V"⟩
abbrev cX11_sayAll : ByteArray := prog_13_method_37_code
def yX11_sayAll : MethodName := ⟨RX11, "sayAll", "()V"⟩
abbrev cX11_letterAt : ByteArray := prog_13_method_38_code
def yX11_letterAt : MethodName := ⟨RX11, "letterAt", "(II[II)I"⟩
abbrev cX11_said : ByteArray := prog_13_method_39_code
def yX11_said : MethodName := ⟨RX11, "said", "(II)I"⟩
abbrev cX11_turned : ByteArray := prog_13_method_40_code
def yX11_turned : MethodName := ⟨RX11, "turned", "(III)I"⟩
abbrev cX11_isAlike : ByteArray := prog_13_method_41_code
def yX11_isAlike : MethodName := ⟨RX11, "isAlike", "(II)Z"⟩
abbrev cX11_alike : ByteArray := prog_13_method_42_code
def yX11_alike : MethodName := ⟨RX11, "alike", "()I"⟩
abbrev cX11_hardOf : ByteArray := prog_13_method_43_code
def yX11_hardOf : MethodName := ⟨RX11, "hardOf", "(I)I"⟩
abbrev cX11_worthNow : ByteArray := prog_13_method_44_code
def yX11_worthNow : MethodName := ⟨RX11, "worthNow", "()I"⟩
abbrev cX11_isAsItWas : ByteArray := prog_13_method_45_code
def yX11_isAsItWas : MethodName := ⟨RX11, "isAsItWas", "(I)Z"⟩
abbrev cX11_round : ByteArray := prog_13_method_46_code
def yX11_round : MethodName := ⟨RX11, "round", "(I)I"⟩
abbrev cX11_safe : ByteArray := prog_13_method_47_code
def yX11_safe : MethodName := ⟨RX11, "safe", "(I)I"⟩
abbrev cX11_of : ByteArray := prog_13_method_48_code
def yX11_of : MethodName := ⟨RX11, "of", "(II)I"⟩
abbrev cX11_apart : ByteArray := prog_13_method_49_code
def yX11_apart : MethodName := ⟨RX11, "apart", "()I"⟩
abbrev cX11_idle : ByteArray := prog_13_method_50_code
def yX11_idle : MethodName := ⟨RX11, "idle", "()I"⟩
abbrev cX11_all : ByteArray := prog_13_method_51_code
def yX11_all : MethodName := ⟨RX11, "all", "(I)I"⟩
abbrev cX11_layBy : ByteArray := prog_13_method_52_code
def yX11_layBy : MethodName := ⟨RX11, "layBy", "()V"⟩
abbrev cX11_layBack : ByteArray := prog_13_method_53_code
def yX11_layBack : MethodName := ⟨RX11, "layBack", "()V"⟩
abbrev cX11_leave : ByteArray := prog_13_method_54_code
def yX11_leave : MethodName := ⟨RX11, "leave", "(I)I"⟩
abbrev cX11_swap : ByteArray := prog_13_method_55_code
def yX11_swap : MethodName := ⟨RX11, "swap", "(II)V"⟩
abbrev cX11_next_ : ByteArray := prog_13_method_56_code
def yX11_next_ : MethodName := ⟨RX11, "next", "(I)Z"⟩
abbrev cX11_order : ByteArray := prog_13_method_57_code
def yX11_order : MethodName := ⟨RX11, "order", "(I)I"⟩
abbrev cX11_letter : ByteArray := prog_13_method_58_code
def yX11_letter : MethodName := ⟨RX11, "letter", "(II)I"⟩
abbrev cX11_isHeard : ByteArray := prog_13_method_59_code
def yX11_isHeard : MethodName := ⟨RX11, "isHeard", "(I)Z"⟩
abbrev cX11_heard : ByteArray := prog_13_method_60_code
def yX11_heard : MethodName := ⟨RX11, "heard", "(II)I"⟩
abbrev cX11_found : ByteArray := prog_13_method_61_code
def yX11_found : MethodName := ⟨RX11, "found", "(IIII)I"⟩
abbrev cX11_alikeTexts : ByteArray := prog_13_method_62_code
def yX11_alikeTexts : MethodName := ⟨RX11, "alikeTexts", "()I"⟩
abbrev cX11_film : ByteArray := prog_13_method_63_code
def yX11_film : MethodName := ⟨RX11, "film", "(II)I"⟩
abbrev cX11_drawRow : ByteArray := prog_13_method_64_code
def yX11_drawRow : MethodName := ⟨RX11, "drawRow", "(I)V"⟩
abbrev cX11_drawn : ByteArray := prog_13_method_65_code
def yX11_drawn : MethodName := ⟨RX11, "drawn", "(I)I"⟩
abbrev cX11_divisor : ByteArray := prog_13_method_66_code
def yX11_divisor : MethodName := ⟨RX11, "divisor", "(JJ)J"⟩
abbrev cX11_chance : ByteArray := prog_13_method_67_code
def yX11_chance : MethodName := ⟨RX11, "chance", "(III)J"⟩
abbrev cX11_move : ByteArray := prog_13_method_68_code
def yX11_move : MethodName := ⟨RX11, "move", "([II[III)V"⟩
abbrev cX11_image : ByteArray := prog_13_method_69_code
def yX11_image : MethodName := ⟨RX11, "image", "()I"⟩
abbrev cX11_back : ByteArray := prog_13_method_70_code
def yX11_back : MethodName := ⟨RX11, "back", "()I"⟩
abbrev cX11_count : ByteArray := prog_13_method_71_code
def yX11_count : MethodName := ⟨RX11, "count", "(I)I"⟩
abbrev cX11_isSheet : ByteArray := prog_13_method_72_code
def yX11_isSheet : MethodName := ⟨RX11, "isSheet", "(I)Z"⟩
abbrev cX11_sheet : ByteArray := prog_13_method_73_code
def yX11_sheet : MethodName := ⟨RX11, "sheet", "(III)I"⟩
abbrev cX11_cell : ByteArray := prog_13_method_74_code
def yX11_cell : MethodName := ⟨RX11, "cell", "(III)I"⟩
abbrev cX11_copy : ByteArray := prog_13_method_75_code
def yX11_copy : MethodName := ⟨RX11, "copy", "(IIIII)I"⟩
abbrev cX11_rules : ByteArray := prog_13_method_76_code
def yX11_rules : MethodName := ⟨RX11, "rules", "(IIII)I"⟩
abbrev cX11_taken : ByteArray := prog_13_method_77_code
def yX11_taken : MethodName := ⟨RX11, "taken", "(II)I"⟩
def RJ11 : String := "java/lang/Character"
def TJ11 : u_T := fun k => match k with
  | _ => ("", "", "", false)
def tyJ11 : Nat → FieldType := fun k => match k with
  | _ => .int
abbrev wsJ110 : List Cond := u_ws RJ11 TJ11 0
theorem nmJ11 : ∀ a, a < 0 → ∀ b, b < 0 → a ≠ b → (TJ11 a).2.1 ≠ (TJ11 b).2.1 := by decide +kernel
theorem tyJ11_ok : ∀ k, k < 0 → parseFieldDescriptor (TJ11 k).2.2.1 = some (tyJ11 k) := by decide +kernel
abbrev cJ11_isValidCodePoint_9a6ad : ByteArray := prog_14_method_11_code
def yJ11_isValidCodePoint_9a6ad : MethodName := ⟨RJ11, "isValidCodePoint", "(I)Z"⟩
abbrev cJ11_highSurrogate_5068e : ByteArray := prog_14_method_28_code
def yJ11_highSurrogate_5068e : MethodName := ⟨RJ11, "highSurrogate", "(I)C"⟩
abbrev cJ11_lowSurrogate_5068e : ByteArray := prog_14_method_29_code
def yJ11_lowSurrogate_5068e : MethodName := ⟨RJ11, "lowSurrogate", "(I)C"⟩
def RJ9 : String := "java/lang/Math"
def TJ9 : u_T := fun k => match k with
  | _ => ("", "", "", false)
def tyJ9 : Nat → FieldType := fun k => match k with
  | _ => .int
abbrev wsJ90 : List Cond := u_ws RJ9 TJ9 0
theorem nmJ9 : ∀ a, a < 0 → ∀ b, b < 0 → a ≠ b → (TJ9 a).2.1 ≠ (TJ9 b).2.1 := by decide +kernel
theorem tyJ9_ok : ∀ k, k < 0 → parseFieldDescriptor (TJ9 k).2.2.1 = some (tyJ9 k) := by decide +kernel
abbrev cJ9_max_7cf53 : ByteArray := prog_15_method_65_code
def yJ9_max_7cf53 : MethodName := ⟨RJ9, "max", "(II)I"⟩
abbrev cJ9_min_7cf53 : ByteArray := prog_15_method_69_code
def yJ9_min_7cf53 : MethodName := ⟨RJ9, "min", "(II)I"⟩
def RJ0 : String := "java/lang/String"
def TJ0 : u_T := fun k => match k with
  | _ => ("", "", "", false)
def tyJ0 : Nat → FieldType := fun k => match k with
  | _ => .int
abbrev wsJ00 : List Cond := u_ws RJ0 TJ0 0
theorem nmJ0 : ∀ a, a < 0 → ∀ b, b < 0 → a ≠ b → (TJ0 a).2.1 ≠ (TJ0 b).2.1 := by decide +kernel
theorem tyJ0_ok : ∀ k, k < 0 → parseFieldDescriptor (TJ0 k).2.2.1 = some (tyJ0 k) := by decide +kernel
abbrev cJ0_length_8abf5 : ByteArray := prog_16_method_54_code
def yJ0_length_8abf5 : MethodName := ⟨RJ0, "length", "()I"⟩
abbrev cJ0_charAt_5068e : ByteArray := prog_16_method_56_code
def yJ0_charAt_5068e : MethodName := ⟨RJ0, "charAt", "(I)C"⟩
abbrev cJ0_indexOf_0f7a4 : ByteArray := prog_16_method_79_code
def yJ0_indexOf_0f7a4 : MethodName := ⟨RJ0, "indexOf", "(I)I"⟩
abbrev cJ0_indexOf_7cf53 : ByteArray := prog_16_method_80_code
def yJ0_indexOf_7cf53 : MethodName := ⟨RJ0, "indexOf", "(II)I"⟩
abbrev cJ0_coder_7d493 : ByteArray := prog_16_method_152_code
def yJ0_coder_7d493 : MethodName := ⟨RJ0, "coder", "()B"⟩
abbrev cJ0_isLatin1_aae02 : ByteArray := prog_16_method_154_code
def yJ0_isLatin1_aae02 : MethodName := ⟨RJ0, "isLatin1", "()Z"⟩
abbrev cJ0_checkIndex_df160 : ByteArray := prog_16_method_155_code
def yJ0_checkIndex_df160 : MethodName := ⟨RJ0, "checkIndex", "(II)V"⟩
abbrev cJ0_checkBoundsBeginEnd_23922 : ByteArray := prog_16_method_158_code
def yJ0_checkBoundsBeginEnd_23922 : MethodName := ⟨RJ0, "checkBoundsBeginEnd", "(III)V"⟩
def RJ1 : String := "java/lang/StringLatin1"
def TJ1 : u_T := fun k => match k with
  | _ => ("", "", "", false)
def tyJ1 : Nat → FieldType := fun k => match k with
  | _ => .int
abbrev wsJ10 : List Cond := u_ws RJ1 TJ1 0
theorem nmJ1 : ∀ a, a < 0 → ∀ b, b < 0 → a ≠ b → (TJ1 a).2.1 ≠ (TJ1 b).2.1 := by decide +kernel
theorem tyJ1_ok : ∀ k, k < 0 → parseFieldDescriptor (TJ1 k).2.2.1 = some (tyJ1 k) := by decide +kernel
abbrev cJ1_charAt_3b067 : ByteArray := prog_17_method_2_code
def yJ1_charAt_3b067 : MethodName := ⟨RJ1, "charAt", "([BI)C"⟩
abbrev cJ1_canEncode_9a6ad : ByteArray := prog_17_method_4_code
def yJ1_canEncode_9a6ad : MethodName := ⟨RJ1, "canEncode", "(I)Z"⟩
abbrev cJ1_indexOf_4cfef : ByteArray := prog_17_method_22_code
def yJ1_indexOf_4cfef : MethodName := ⟨RJ1, "indexOf", "([BIII)I"⟩
abbrev cJ1_indexOfChar_4cfef : ByteArray := prog_17_method_23_code
def yJ1_indexOfChar_4cfef : MethodName := ⟨RJ1, "indexOfChar", "([BIII)I"⟩
def RJ2 : String := "java/lang/StringUTF16"
def TJ2 : u_T := fun k => match k with
  | _ => ("", "", "", false)
def tyJ2 : Nat → FieldType := fun k => match k with
  | _ => .int
abbrev wsJ20 : List Cond := u_ws RJ2 TJ2 0
theorem nmJ2 : ∀ a, a < 0 → ∀ b, b < 0 → a ≠ b → (TJ2 a).2.1 ≠ (TJ2 b).2.1 := by decide +kernel
theorem tyJ2_ok : ∀ k, k < 0 → parseFieldDescriptor (TJ2 k).2.2.1 = some (tyJ2 k) := by decide +kernel
abbrev cJ2_getChar_3b067 : ByteArray := prog_18_method_5_code
def yJ2_getChar_3b067 : MethodName := ⟨RJ2, "getChar", "([BI)C"⟩
abbrev cJ2_length_9d52b : ByteArray := prog_18_method_6_code
def yJ2_length_9d52b : MethodName := ⟨RJ2, "length", "([B)I"⟩
abbrev cJ2_indexOf_4cfef : ByteArray := prog_18_method_40_code
def yJ2_indexOf_4cfef : MethodName := ⟨RJ2, "indexOf", "([BIII)I"⟩
abbrev cJ2_indexOfChar_4cfef : ByteArray := prog_18_method_47_code
def yJ2_indexOfChar_4cfef : MethodName := ⟨RJ2, "indexOfChar", "([BIII)I"⟩
abbrev cJ2_indexOfCharUnsafe_4cfef : ByteArray := prog_18_method_48_code
def yJ2_indexOfCharUnsafe_4cfef : MethodName := ⟨RJ2, "indexOfCharUnsafe", "([BIII)I"⟩
abbrev cJ2_indexOfSupplementary_4cfef : ByteArray := prog_18_method_49_code
def yJ2_indexOfSupplementary_4cfef : MethodName := ⟨RJ2, "indexOfSupplementary", "([BIII)I"⟩
abbrev cJ2_charAt_3b067 : ByteArray := prog_18_method_83_code
def yJ2_charAt_3b067 : MethodName := ⟨RJ2, "charAt", "([BI)C"⟩
abbrev cJ2_checkIndex_2214a : ByteArray := prog_18_method_91_code
def yJ2_checkIndex_2214a : MethodName := ⟨RJ2, "checkIndex", "(I[B)V"⟩
abbrev cJ2_checkBoundsBeginEnd_d044e : ByteArray := prog_18_method_93_code
def yJ2_checkBoundsBeginEnd_d044e : MethodName := ⟨RJ2, "checkBoundsBeginEnd", "(II[B)V"⟩
def RJ10 : String := "java/lang/System"
def TJ10 : u_T := fun k => match k with
  | _ => ("", "", "", false)
def tyJ10 : Nat → FieldType := fun k => match k with
  | _ => .int
abbrev wsJ100 : List Cond := u_ws RJ10 TJ10 0
theorem nmJ10 : ∀ a, a < 0 → ∀ b, b < 0 → a ≠ b → (TJ10 a).2.1 ≠ (TJ10 b).2.1 := by decide +kernel
theorem tyJ10_ok : ∀ k, k < 0 → parseFieldDescriptor (TJ10 k).2.2.1 = some (tyJ10 k) := by decide +kernel
def RJ3 : String := "jdk/internal/util/Preconditions"
def TJ3 : u_T := fun k => match k with
  | _ => ("", "", "", false)
def tyJ3 : Nat → FieldType := fun k => match k with
  | _ => .int
abbrev wsJ30 : List Cond := u_ws RJ3 TJ3 0
theorem nmJ3 : ∀ a, a < 0 → ∀ b, b < 0 → a ≠ b → (TJ3 a).2.1 ≠ (TJ3 b).2.1 := by decide +kernel
theorem tyJ3_ok : ∀ k, k < 0 → parseFieldDescriptor (TJ3 k).2.2.1 = some (tyJ3 k) := by decide +kernel
abbrev cJ3_checkIndex_8e157 : ByteArray := prog_20_method_11_code
def yJ3_checkIndex_8e157 : MethodName := ⟨RJ3, "checkIndex", "(IILjava/util/function/BiFunction;)I"⟩
abbrev cJ3_checkFromToIndex_8c36e : ByteArray := prog_20_method_12_code
def yJ3_checkFromToIndex_8c36e : MethodName := ⟨RJ3, "checkFromToIndex", "(IIILjava/util/function/BiFunction;)I"⟩
def RL : String := "AfterEachVowelLaw"
abbrev cL_law : ByteArray := code
abbrev vwCl : List vw_C := [(RX0, TX0, 1), (RX1, TX1, 6), (RX2, TX2, 4), (RX3, TX3, 2), (RX4, TX4, 2), (RX5, TX5, 2), (RX6, TX6, 3), (RX7, TX7, 11), (RX8, TX8, 6), (RX9, TX9, 6), (RX10, TX10, 13), (RX11, TX11, 45)]
end
section
/-- the words that stay good while entries are resolved -/
def GT : List Cond := lw_tbl.filter goodWord
theorem GT_in {w : Cond} (i : Nat) (h : lw_tbl[i]? = some w) (g : goodWord w = true) : w ∈ GT := List.mem_filter.mpr ⟨List.mem_of_getElem? h, g⟩
theorem GT_good : GoodIn GT GT := fun w h => ⟨h, good_of_word (List.mem_filter.mp h).2⟩
def LAY : List Nat := [11, 8, 24, 1010, 1010, 1010, 1010, 1010, 1010, 1010, 1010, 1008, 1008, 1006, 1006, 1006, 4, 1008, 8, 24, 1010, 1010, 1010, 1010, 1010, 1010, 1010, 1010, 1008, 1008, 1006, 1006, 1006, 4, 1008, 20, 9, 1160, 1161, 1161, 1161, 3, 21, 6, 22, 5, 1040, 5, 1040, 5, 1040, 5, 1040, 5, 1040, 5, 1040, 5, 1040, 5, 1040, 5, 1040, 4, 1008, 1, 1006, 2, 23, 4, 1008, 1, 1006, 6, 22, 5, 1040, 5, 1040, 5, 1040, 5, 1040, 5, 1040, 5, 1040, 5, 1040, 5, 1040, 6, 22, 5, 1040, 5, 1040, 5, 1040, 5, 1040, 5, 1040, 5, 1040, 5, 1040, 5, 1040, 6, 22, 5, 1040, 5, 1040, 5, 1040, 5, 1040, 5, 1040, 5, 1040, 5, 1040, 5, 1040, 6, 22, 5, 1040, 5, 1040, 5, 1040, 5, 1040, 5, 1040, 5, 1040, 5, 1040, 5, 1040, 6, 22, 5, 1040, 5, 1040, 5, 1040, 5, 1040, 5, 1040, 5, 1040, 5, 1040, 5, 1040, 6, 22, 5, 1040, 5, 1040, 5, 1040, 5, 1040, 5, 1040, 5, 1040, 5, 1040, 5, 1040, 6, 22, 5, 1040, 5, 1040, 5, 1040, 5, 1040, 5, 1040, 5, 1040, 5, 1040, 5, 1040, 10, 1160, 1160, 1160, 1160, 1003, 10, 1160, 1160, 1160, 1160, 1003, 10, 1160, 1160, 1160, 1160, 1003, 10, 1160, 1160, 1160, 1160, 1003, 10, 1160, 1160, 1160, 1160, 1003, 10, 1160, 1160, 1160, 1160, 1003, 7, 1040, 7, 1040, 7, 1040, 7, 1040, 12, 1080, 1008, 1008, 1006, 1006, 1006, 1008, 1160, 3880, 1018, 5053, 1013, 1170, 4008, 1170, 1006, 1320, 1008, 1042, 1090, 1008, 1144, 1004, 1004, 1160, 1040]
abbrev NC : Nat := 243
abbrev NTT : Nat := 270
def SHP : List (List (Nat × Nat)) := [[], [(1006, 1)], [(23, 1), (4, 2), (1, 4), (0, 1), (0, 0), (0, 0)], [(9, 9999), (10, 9999), (0, 0), (0, 0)], [(1008, 1), (0, 0)], [(1040, 1), (0, 0)], [(22, 1), (0, 0)], [(1040, 1), (0, 0), (0, 0)], [(0, 0), (24, 1), (1008, 10), (1008, 11), (0, 0), (1006, 12), (1006, 13), (1006, 14), (0, 0), (4, 15), (0, 0)], [(1160, 1), (0, 0), (1161, 2), (1161, 3), (1161, 4), (0, 0)], [(1160, 1), (1160, 2), (1160, 3), (1160, 4), (1003, 5), (0, 0)], [(8, 1), (8, 18), (0, 1), (20, 35), (0, 0), (9, 36), (3, 41), (21, 42), (6, 43), (5, 61), (4, 63), (1, 65), (2, 67)], [(0, 0), (0, 0), (1080, 1), (1008, 2), (1008, 3), (0, 0), (1006, 4), (1006, 5), (1006, 6), (0, 0), (1008, 7), (1160, 8), (0, 0), (0, 0), (0, 0), (3880, 9), (1018, 10), (0, 0), (0, 0), (0, 0), (0, 0), (5053, 11), (1013, 12), (1170, 13), (0, 0), (0, 0), (0, 0), (4008, 14), (0, 0), (0, 0), (1170, 15), (1006, 16), (1320, 17), (1008, 18), (1042, 19), (1090, 20), (0, 0), (1008, 21), (0, 0), (0, 1), (1144, 22), (1004, 23), (1004, 24), (1160, 25), (1040, 26)]]
def Rn (k : Nat) : String := [RX0, RX1, RX2, RX3, RX4, RX5, RX6, RX7, RX8, RX9, RX10, RX11, RL].getD k ""
/-- per class: (entry, type of the object, slot, place of its word in lw_tbl) -/
def FTS : List (List (Nat × Nat × Nat × Nat)) := [[(11, 1, 0, 293), (23, 5, 1, 265), (29, 8, 0, 141), (38, 4, 1, 130), (39, 8, 7, 162), (42, 8, 3, 150), (51, 8, 5, 155), (69, 6, 1, 277), (70, 6, 0, 275)],
  [(11, 2, 0, 311), (20, 2, 1, 312), (27, 2, 2, 313), (32, 2, 3, 314), (36, 4, 1, 129), (48, 8, 8, 165), (69, 2, 4, 315), (72, 2, 5, 317)],
  [(9, 3, 0, 234), (15, 3, 1, 235), (19, 3, 2, 236), (23, 3, 3, 237), (47, 9, 5, 214), (50, 9, 2, 208), (54, 9, 4, 212), (57, 9, 1, 206), (111, 9, 3, 210)],
  [(9, 4, 0, 125), (15, 4, 1, 128)],
  [(9, 5, 0, 262), (15, 5, 1, 264), (19, 8, 2, 147), (24, 8, 1, 144), (44, 4, 1, 132), (47, 4, 0, 126), (54, 8, 5, 157), (57, 8, 6, 159), (60, 8, 0, 142), (67, 8, 7, 163)],
  [(11, 6, 0, 274), (18, 8, 4, 151), (24, 6, 1, 276), (50, 5, 1, 267)],
  [(9, 7, 0, 361), (15, 7, 1, 364), (19, 7, 2, 366), (22, 5, 1, 266), (29, 5, 0, 263)],
  [(10, 8, 0, 140), (18, 8, 1, 143), (21, 8, 2, 146), (25, 8, 3, 149), (28, 8, 5, 154), (31, 8, 6, 158), (34, 8, 7, 161), (40, 8, 9, 168), (44, 8, 4, 152), (47, 8, 8, 166), (50, 7, 0, 362), (55, 7, 2, 367), (71, 4, 1, 133), (80, 4, 0, 127), (86, 8, 10, 171)],
  [(9, 9, 0, 203), (15, 9, 2, 207), (18, 9, 3, 209), (21, 9, 4, 211), (24, 9, 1, 205), (28, 9, 5, 213)],
  [(9, 10, 0, 337), (15, 10, 1, 338), (18, 10, 2, 339), (21, 10, 3, 340), (24, 10, 4, 341), (27, 10, 5, 342)],
  [(10, 11, 0, 614), (16, 11, 1, 615), (21, 11, 3, 617), (28, 11, 5, 619), (35, 11, 6, 620), (41, 11, 7, 621), (48, 11, 8, 622), (55, 11, 9, 623), (62, 11, 10, 624), (69, 11, 11, 625), (76, 11, 12, 626), (102, 9, 1, 204), (106, 11, 4, 618), (124, 8, 4, 153), (135, 8, 8, 167), (145, 8, 9, 169), (148, 4, 1, 131), (172, 8, 5, 156), (176, 8, 2, 148), (179, 8, 10, 170), (238, 2, 4, 316), (241, 2, 5, 318), (244, 8, 6, 160), (261, 8, 7, 164), (275, 5, 1, 268), (289, 11, 2, 616), (295, 7, 2, 368), (298, 7, 1, 365), (304, 7, 0, 363), (333, 1, 0, 294), (354, 8, 1, 145)],
  [(1, 12, 1, 1234), (11, 12, 5, 1238), (18, 12, 41, 1274), (22, 12, 42, 1275), (25, 12, 43, 1276), (28, 12, 2, 1235), (31, 12, 3, 1236), (34, 12, 4, 1237), (37, 12, 6, 1239), (40, 12, 7, 1240), (43, 12, 8, 1241), (49, 12, 9, 1242), (52, 12, 10, 1243), (55, 12, 0, 1233), (66, 12, 12, 1245), (69, 12, 11, 1244), (72, 12, 17, 1250), (78, 12, 18, 1251), (81, 12, 22, 1255), (84, 12, 20, 1253), (87, 12, 21, 1254), (91, 12, 19, 1252), (104, 12, 15, 1248), (107, 12, 28, 1261), (110, 12, 29, 1262), (113, 12, 24, 1257), (116, 12, 23, 1256), (123, 12, 25, 1258), (136, 12, 27, 1260), (140, 12, 26, 1259), (153, 12, 16, 1249), (169, 12, 13, 1246), (175, 12, 14, 1247), (184, 12, 30, 1263), (187, 12, 31, 1264), (190, 12, 32, 1265), (193, 12, 33, 1266), (196, 12, 34, 1267), (199, 12, 35, 1268), (202, 12, 37, 1270), (205, 12, 40, 1273), (208, 12, 44, 1277), (226, 12, 36, 1269), (281, 12, 38, 1271), (312, 12, 39, 1272)],
  []]
def CTS : List (Nat × Nat × Int32 × Nat) := [(3, 33, 1103515245, 1045), (7, 9, 1065233, 116), (7, 72, 67108864, 728), (10, 226, (-100000), 939), (11, 65, 67108863, 1151), (11, 183, 1065233, 1232), (11, 271, (-100000), 1447), (11, 302, 1103515245, 1520)]
def LTS : List (Nat × Nat × Int64 × Nat) := [(10, 280, (-4611686018427387904), 1050), (11, 306, (-4611686018427387904), 1525), (11, 320, 3, 1557), (11, 322, 2, 1558)]
theorem inG0 : ∀ w ∈ u_ws RX0 TX0 1, w ∈ GT := by
  have h : u_ws RX0 TX0 1 = ([295] : List Nat).filterMap (fun i => lw_tbl[i]?) := by decide +kernel
  have g : (u_ws RX0 TX0 1).all goodWord = true := by decide +kernel
  intro w hw
  have g1 := List.all_eq_true.mp g w hw
  rw [h] at hw
  obtain ⟨i, -, hi⟩ := List.mem_filterMap.mp hw
  exact GT_in i hi g1
theorem inG1 : ∀ w ∈ u_ws RX1 TX1 6, w ∈ GT := by
  have h : u_ws RX1 TX1 6 = ([319, 321, 323, 325, 327, 329] : List Nat).filterMap (fun i => lw_tbl[i]?) := by decide +kernel
  have g : (u_ws RX1 TX1 6).all goodWord = true := by decide +kernel
  intro w hw
  have g1 := List.all_eq_true.mp g w hw
  rw [h] at hw
  obtain ⟨i, -, hi⟩ := List.mem_filterMap.mp hw
  exact GT_in i hi g1
theorem inG2 : ∀ w ∈ u_ws RX2 TX2 4, w ∈ GT := by
  have h : u_ws RX2 TX2 4 = ([238, 240, 242, 244] : List Nat).filterMap (fun i => lw_tbl[i]?) := by decide +kernel
  have g : (u_ws RX2 TX2 4).all goodWord = true := by decide +kernel
  intro w hw
  have g1 := List.all_eq_true.mp g w hw
  rw [h] at hw
  obtain ⟨i, -, hi⟩ := List.mem_filterMap.mp hw
  exact GT_in i hi g1
theorem inG3 : ∀ w ∈ u_ws RX3 TX3 2, w ∈ GT := by
  have h : u_ws RX3 TX3 2 = ([134, 136] : List Nat).filterMap (fun i => lw_tbl[i]?) := by decide +kernel
  have g : (u_ws RX3 TX3 2).all goodWord = true := by decide +kernel
  intro w hw
  have g1 := List.all_eq_true.mp g w hw
  rw [h] at hw
  obtain ⟨i, -, hi⟩ := List.mem_filterMap.mp hw
  exact GT_in i hi g1
theorem inG4 : ∀ w ∈ u_ws RX4 TX4 2, w ∈ GT := by
  have h : u_ws RX4 TX4 2 = ([269, 271] : List Nat).filterMap (fun i => lw_tbl[i]?) := by decide +kernel
  have g : (u_ws RX4 TX4 2).all goodWord = true := by decide +kernel
  intro w hw
  have g1 := List.all_eq_true.mp g w hw
  rw [h] at hw
  obtain ⟨i, -, hi⟩ := List.mem_filterMap.mp hw
  exact GT_in i hi g1
theorem inG5 : ∀ w ∈ u_ws RX5 TX5 2, w ∈ GT := by
  have h : u_ws RX5 TX5 2 = ([278, 280] : List Nat).filterMap (fun i => lw_tbl[i]?) := by decide +kernel
  have g : (u_ws RX5 TX5 2).all goodWord = true := by decide +kernel
  intro w hw
  have g1 := List.all_eq_true.mp g w hw
  rw [h] at hw
  obtain ⟨i, -, hi⟩ := List.mem_filterMap.mp hw
  exact GT_in i hi g1
theorem inG6 : ∀ w ∈ u_ws RX6 TX6 3, w ∈ GT := by
  have h : u_ws RX6 TX6 3 = ([369, 371, 373] : List Nat).filterMap (fun i => lw_tbl[i]?) := by decide +kernel
  have g : (u_ws RX6 TX6 3).all goodWord = true := by decide +kernel
  intro w hw
  have g1 := List.all_eq_true.mp g w hw
  rw [h] at hw
  obtain ⟨i, -, hi⟩ := List.mem_filterMap.mp hw
  exact GT_in i hi g1
theorem inG7 : ∀ w ∈ u_ws RX7 TX7 11, w ∈ GT := by
  have h : u_ws RX7 TX7 11 = ([172, 174, 176, 178, 180, 182, 184, 186, 188, 190, 192] : List Nat).filterMap (fun i => lw_tbl[i]?) := by decide +kernel
  have g : (u_ws RX7 TX7 11).all goodWord = true := by decide +kernel
  intro w hw
  have g1 := List.all_eq_true.mp g w hw
  rw [h] at hw
  obtain ⟨i, -, hi⟩ := List.mem_filterMap.mp hw
  exact GT_in i hi g1
theorem inG8 : ∀ w ∈ u_ws RX8 TX8 6, w ∈ GT := by
  have h : u_ws RX8 TX8 6 = ([215, 217, 219, 221, 223, 225] : List Nat).filterMap (fun i => lw_tbl[i]?) := by decide +kernel
  have g : (u_ws RX8 TX8 6).all goodWord = true := by decide +kernel
  intro w hw
  have g1 := List.all_eq_true.mp g w hw
  rw [h] at hw
  obtain ⟨i, -, hi⟩ := List.mem_filterMap.mp hw
  exact GT_in i hi g1
theorem inG9 : ∀ w ∈ u_ws RX9 TX9 6, w ∈ GT := by
  have h : u_ws RX9 TX9 6 = ([343, 345, 347, 349, 351, 353] : List Nat).filterMap (fun i => lw_tbl[i]?) := by decide +kernel
  have g : (u_ws RX9 TX9 6).all goodWord = true := by decide +kernel
  intro w hw
  have g1 := List.all_eq_true.mp g w hw
  rw [h] at hw
  obtain ⟨i, -, hi⟩ := List.mem_filterMap.mp hw
  exact GT_in i hi g1
theorem inG10 : ∀ w ∈ u_ws RX10 TX10 13, w ∈ GT := by
  have h : u_ws RX10 TX10 13 = ([627, 629, 631, 633, 635, 637, 639, 641, 643, 645, 647, 649, 651] : List Nat).filterMap (fun i => lw_tbl[i]?) := by decide +kernel
  have g : (u_ws RX10 TX10 13).all goodWord = true := by decide +kernel
  intro w hw
  have g1 := List.all_eq_true.mp g w hw
  rw [h] at hw
  obtain ⟨i, -, hi⟩ := List.mem_filterMap.mp hw
  exact GT_in i hi g1
theorem inG11 : ∀ w ∈ u_ws RX11 TX11 45, w ∈ GT := by
  have h : u_ws RX11 TX11 45 = ([1278, 1280, 1282, 1284, 1286, 1288, 1290, 1292, 1294, 1296, 1298, 1300, 1302, 1304, 1306, 1308, 1310, 1312, 1314, 1316, 1318, 1320, 1322, 1324, 1326, 1328, 1330, 1332, 1334, 1336, 1338, 1340, 1342, 1344, 1346, 1348, 1350, 1352, 1354, 1356, 1358, 1360, 1362, 1364, 1366] : List Nat).filterMap (fun i => lw_tbl[i]?) := by decide +kernel
  have g : (u_ws RX11 TX11 45).all goodWord = true := by decide +kernel
  intro w hw
  have g1 := List.all_eq_true.mp g w hw
  rw [h] at hw
  obtain ⟨i, -, hi⟩ := List.mem_filterMap.mp hw
  exact GT_in i hi g1
end
section
abbrev AV : Type := Int32 ⊕ (Int64 ⊕ (Nat × Nat))
abbrev vI (x : Int32) : AV := .inl x
abbrev vJ (x : Int64) : AV := .inr (.inl x)
abbrev vR (t h : Nat) : AV := .inr (.inr (t, h))
abbrev vU : AV := .inr (.inr (0, 0))
/-- what the cells hold, by handle and slot -/
abbrev Mem : Type := Nat → Nat → Int32
def mSr (m : Mem) (h : Nat) (f : Nat → Int32) : Mem := fun a => if a = h then f else m a
def mUp (m : Mem) (h k : Nat) (x : Int32) : Mem := mSr m h (upd (m h) k x)
theorem mSr_s (m : Mem) (h : Nat) (f : Nat → Int32) : mSr m h f h = f := if_pos rfl
theorem mSr_n {m : Mem} {h a : Nat} {f : Nat → Int32} (n : a ≠ h) : mSr m h f a = m a := if_neg n
theorem mUp_s (m : Mem) (h k : Nat) (x : Int32) : mUp m h k x h k = x := by simp [mUp, mSr, upd]
theorem mUp_n {m : Mem} {h k a j : Nat} {x : Int32} (n : a ≠ h ∨ j ≠ k) : mUp m h k x a j = m a j := by
  unfold mUp mSr
  by_cases e : a = h
  · subst e
    rcases n with n | n
    · exact absurd rfl n
    · simp [upd, n]
  · simp [e]
theorem mUp_a {m : Mem} {h k a : Nat} {x : Int32} (n : a ≠ h) : mUp m h k x a = m a := mSr_n n
/-- type of the cell with that handle -/
def layT (h : Nat) : Nat := LAY.getD h 0
def shp (t : Nat) : List (Nat × Nat) := SHP.getD t []
def RTB : List (Nat × Nat × Nat × Nat) := [(6, 164, 6, 10), (4, 193, 2, 7), (8, 1, 2, 5), (7, 5, 18, 6), (8, 1, 1, 1010)]
def rtb (t : Nat) : Nat × Nat × Nat × Nat := RTB.getD (t - 20) (0, 0, 0, 0)
def rlen (t : Nat) : Nat := (rtb t).1
def roff (t : Nat) : Nat := (rtb t).2.1
def rstr (t : Nat) : Nat := (rtb t).2.2.1
def rty (t : Nat) : Nat := (rtb t).2.2.2
/-- first cell, how many, classes and slots, array classes, other addresses, the script -/
abbrev XT : Type := Nat × Nat × va_G × (Nat → ClassId) × (Nat → Nat) × (Nat × (Nat → Int32))
def xb (X : XT) : Nat := X.1
def xN (X : XT) : Nat := X.2.1
def xD (X : XT) : va_G := X.2.2.1
def xc (X : XT) : Nat → ClassId := X.2.2.2.1
def xa (X : XT) : Nat → Nat := X.2.2.2.2.1
def isX (t : Nat) : Bool := t == 50 || (t == 51 || t == 52)
def aof (X : XT) (t h : Nat) : Nat := if isX t then xa X (if t = 50 then h else if t = 51 then 100 else 101) else xb X + h
def cv (X : XT) (v : AV) : Value := match v with
  | .inl x => .int x
  | .inr (.inl x) => .long x
  | .inr (.inr q) => .ref (aof X q.1 q.2)
/-- in the world: nothing known, or outside it, or a cell of that type -/
def okr (X : XT) (t h : Nat) : Prop := t = 0 ∨ (isX t = true ∧ (t = 50 → h < 14)) ∨ (isX t = false ∧ h < xN X ∧ layT h = t)
def okv (X : XT) (v : AV) : Prop := match v with
  | .inl _ => True
  | .inr (.inl _) => True
  | .inr (.inr q) => okr X q.1 q.2
def okl (X : XT) (vs : List AV) : Prop := ∀ v ∈ vs, okv X v
def slotV (X : XT) (m : Mem) (h k : Nat) (q : Nat × Nat) : Value :=
  if q.1 = 0 then .int (m h k) else if q.2 = 9999 then .ref (xb X + (m h k).toNatClampNeg) else .ref (xb X + (h + q.2))
def fsOf (X : XT) (m : Mem) (h t : Nat) : List Value := (List.range (shp t).length).map (fun k => slotV X m h k ((shp t).getD k (0, 0)))
def celE (X : XT) (m : Mem) (h : Nat) : va_E :=
  if layT h < 20 then .inr (layT h - 1, fsOf X m h (layT h))
  else if layT h < 50 then .inl (xc X (layT h), rlen (layT h), .inr (.inr (.inr (.inr (fun i => some (xb X + (h + roff (layT h) + rstr (layT h) * i)))))))
  else if layT h < 4000 then .inl (xc X 0, layT h - 1000, .inl (m h))
  else if layT h < 5000 then .inl (xc X 1, layT h - 4000, .inl (m h))
  else .inl (xc X 2, layT h - 5000, .inl (m h))
def wsOf (X : XT) (m : Mem) : va_W := (List.range (xN X)).map (fun h => (xb X + h, celE X m h))
def xA (X : XT) : Nat → Prop := fun q => xb X ≤ q
def tysOf (X : XT) : List (ClassId × FieldType) := [(xc X 0, .int), (xc X 1, .boolean), (xc X 2, .char), (xc X 20, .object RX9), (xc X 21, .object RX6), (xc X 22, .object RX4), (xc X 23, .object RX5), (xc X 24, .array .int)]
theorem ws_get (X : XT) (m : Mem) {h : Nat} (hh : h < xN X) : (wsOf X m)[h]? = some (xb X + h, celE X m h) := by
  simp [wsOf, List.getElem?_range hh]
theorem ws_len (X : XT) (m : Mem) : (wsOf X m).length = xN X := by simp [wsOf]
theorem celE_ne {X : XT} {m : Mem} {h a : Nat} {f : Nat → Int32} (n : a ≠ h) : celE X (mSr m h f) a = celE X m a := by
  have e : mSr m h f a = m a := mSr_n n
  have e2 : fsOf X (mSr m h f) a (layT a) = fsOf X m a (layT a) := by
    unfold fsOf
    refine List.map_congr_left fun k _ => ?_
    unfold slotV
    rw [e]
  unfold celE
  rw [e, e2]
theorem ws_row (X : XT) (m : Mem) (h : Nat) (f : Nat → Int32) : wsOf X (mSr m h f) = (wsOf X m).set h (xb X + h, celE X (mSr m h f) h) := by
  apply List.ext_getElem?
  intro j
  by_cases hj : j < xN X
  · rw [ws_get X _ hj, List.getElem?_set]
    by_cases e : h = j
    · subst e
      rw [if_pos rfl, if_pos (by rw [ws_len]; exact hj)]
    · rw [if_neg e, ws_get X _ hj, celE_ne (fun q => e q.symm)]
  · rw [List.getElem?_eq_none (by rw [ws_len]; omega), List.getElem?_eq_none (by rw [List.length_set, ws_len]; omega)]
theorem ws_D (X : XT) (m : Mem) : va_D (xA X) (wsOf X m) := by
  refine ⟨fun i j p q hp hq e => ?_, fun k q hq => ?_⟩
  · have hi : i < xN X := by
      have := (List.getElem?_eq_some_iff.mp hp).1
      rwa [ws_len] at this
    have hj : j < xN X := by
      have := (List.getElem?_eq_some_iff.mp hq).1
      rwa [ws_len] at this
    rw [ws_get X m hi] at hp
    rw [ws_get X m hj] at hq
    cases hp
    cases hq
    have e : xb X + i = xb X + j := e
    omega
  · have hk : k < xN X := by
      have := (List.getElem?_eq_some_iff.mp hq).1
      rwa [ws_len] at this
    rw [ws_get X m hk] at hq
    cases hq
    exact Nat.le_add_right _ _
/-- locals: what is known of each place -/
def unk (v : AV) : Bool := match v with
  | .inr (.inr q) => q.1 == 0
  | _ => false
def lRep (X : XT) (ls : List AV) (la : Array Slot) : Prop := la.size = ls.length ∧ lv_wf la ∧ ∀ (k : Nat) (v : AV), ls[k]? = some v → unk v = false → la[k]? = some (.val (cv X v))
def asc (X : XT) (ls : List AV) : List (Nat × Value) := (List.range ls.length).filterMap (fun k => match ls[k]? with
  | some v => if unk v then none else some (k, cv X v)
  | none => none)
theorem asc_mem {X : XT} {ls : List AV} {q : Nat × Value} : q ∈ asc X ls ↔ ∃ v, ls[q.1]? = some v ∧ unk v = false ∧ q.2 = cv X v := by
  unfold asc
  rw [List.mem_filterMap]
  constructor
  · rintro ⟨k, -, hk⟩
    cases hl : ls[k]? with
    | none => simp [hl] at hk
    | some v =>
      simp only [hl] at hk
      by_cases hu : unk v = true
      · simp [hu] at hk
      · simp only [hu] at hk
        cases hk
        exact ⟨v, hl, by simpa using hu, rfl⟩
  · rintro ⟨v, h1, h2, h3⟩
    refine ⟨q.1, List.mem_range.mpr (List.getElem?_eq_some_iff.mp h1).1, ?_⟩
    simp only [h1, h2]
    cases q
    cases h3
    rfl
theorem lRep_has {X : XT} {ls : List AV} {la : Array Slot} (h : lRep X ls la) : lv_has la ls.length (asc X ls) := by
  refine ⟨h.1, h.2.1, fun q hq => ?_⟩
  obtain ⟨v, h1, h2, h3⟩ := asc_mem.mp hq
  rw [h3]
  exact h.2.2 _ _ h1 h2
theorem lRep_of {X : XT} {ls : List AV} {la : Array Slot} {nL : Nat} {l : List (Nat × Value)} (h : lv_has la nL l) (hn : nL = ls.length) (hs : ∀ (k : Nat) (v : AV), ls[k]? = some v → unk v = false → (k, cv X v) ∈ l) : lRep X ls la :=
  ⟨h.1.trans hn, h.2.1, fun k v h1 h2 => h.2.2 (k, cv X v) (hs k v h1 h2)⟩
theorem lRep_get {X : XT} {ls : List AV} {la : Array Slot} (h : lRep X ls la) {k : Nat} {v : AV} (hk : ls.getD k vU = v) (hu : unk v = false) : la[k]? = some (.val (cv X v)) := by
  rw [List.getD_eq_getElem?_getD] at hk
  cases hl : ls[k]? with
  | none =>
    rw [hl] at hk
    subst hk
    simp [unk] at hu
  | some w =>
    rw [hl] at hk
    have hk : w = v := hk
    subst hk
    exact h.2.2 k w hl hu
/-- nothing of two words ends at k -/
def noL (ls : List AV) (k : Nat) : Bool := match k with
  | 0 => true
  | j + 1 => match ls[j]? with
    | some (.inr (.inl _)) => false
    | _ => true
theorem cat_I (X : XT) (x : Int32) : (cv X (vI x)).category = 1 := rfl
theorem cat_2 {X : XT} {v : AV} (h : (cv X v).category = 2) : ∃ x, v = vJ x := by
  rcases v with x | x | q
  · cases h
  · exact ⟨x, rfl⟩
  · cases h
theorem lRep_set {X : XT} {ls : List AV} {la : Array Slot} {i : Nat} {v : AV} (hi : i < ls.length) (hno : noL ls i = true)
    (h : lv_has la ls.length ((i, cv X v) :: (asc X ls).filter (fun q => !(q.1 == i) && !(q.1 + 1 == i && q.2.category == 2)))) : lRep X (ls.set i v) la := by
  refine lRep_of h (by simp) (fun k w hk hu => ?_)
  rw [List.getElem?_set] at hk
  by_cases e : i = k
  · subst e
    rw [if_pos rfl, if_pos hi] at hk
    cases hk
    exact List.mem_cons_self
  · rw [if_neg e] at hk
    refine List.mem_cons_of_mem _ (List.mem_filter.mpr ⟨asc_mem.mpr ⟨w, hk, hu, rfl⟩, ?_⟩)
    have e1 : ¬ k = i := fun q => e q.symm
    by_cases e2 : k + 1 = i
    · have hc : ¬ (cv X w).category = 2 := by
        intro h2
        obtain ⟨x, rfl⟩ := cat_2 h2
        subst e2
        simp [noL, hk] at hno
      simp [e1, hc]
    · simp [e1, e2]
theorem lRep_set2 {X : XT} {ls : List AV} {la : Array Slot} {i : Nat} {v : AV} (hi : i + 1 < ls.length) (hno : noL ls i = true)
    (h : lv_has la ls.length ((i, cv X v) :: (asc X ls).filter (fun q => !(q.1 == i) && (!(q.1 == i + 1) && !(q.1 + 1 == i && q.2.category == 2))))) : lRep X ((ls.set i v).set (i + 1) vU) la := by
  refine lRep_of h (by simp) (fun k w hk hu => ?_)
  rw [List.getElem?_set] at hk
  by_cases e : i + 1 = k
  · subst e
    rw [if_pos rfl, if_pos (by simpa using hi)] at hk
    cases hk
    simp [unk] at hu
  · rw [if_neg e, List.getElem?_set] at hk
    by_cases e0 : i = k
    · subst e0
      rw [if_pos rfl, if_pos (by omega)] at hk
      cases hk
      exact List.mem_cons_self
    · rw [if_neg e0] at hk
      refine List.mem_cons_of_mem _ (List.mem_filter.mpr ⟨asc_mem.mpr ⟨w, hk, hu, rfl⟩, ?_⟩)
      have e1 : ¬ k = i := fun q => e0 q.symm
      have e3 : ¬ k = i + 1 := fun q => e q.symm
      by_cases e2 : k + 1 = i
      · have hc : ¬ (cv X w).category = 2 := by
          intro h2
          obtain ⟨x, rfl⟩ := cat_2 h2
          subst e2
          simp [noL, hk] at hno
        simp [e1, e3, hc]
      · simp [e1, e2, e3]
end
section
def NWS : List (String × Nat × MethodName × String) := [("AfterEachVowel", 9, ⟨"AfterEachVowel$State", "<init>", "()V"⟩, "AfterEachVowel"), ("AfterEachVowel$State", 39, ⟨"AfterEachVowel$Row", "<init>", "()V"⟩, "AfterEachVowel"), ("AfterEachVowel", 27, ⟨"AfterEachVowel$Tape", "<init>", "()V"⟩, "AfterEachVowel"), ("AfterEachVowel", 34, ⟨"AfterEachVowel$Parser", "<init>", "()V"⟩, "AfterEachVowel"), ("AfterEachVowel$Sayings", 17, ⟨"AfterEachVowel$Saying", "<init>", "()V"⟩, "AfterEachVowel"), ("AfterEachVowel", 54, ⟨"AfterEachVowel$Saying", "<init>", "()V"⟩, "AfterEachVowel"), ("AfterEachVowel", 61, ⟨"AfterEachVowel$Row", "<init>", "()V"⟩, "AfterEachVowel"), ("AfterEachVowel", 68, ⟨"AfterEachVowel$Judge", "<init>", "()V"⟩, "AfterEachVowel"), ("AfterEachVowel$Orders", 19, ⟨"AfterEachVowel$Row", "<init>", "()V"⟩, "AfterEachVowel"), ("AfterEachVowel$Orders", 26, ⟨"AfterEachVowel$Judge", "<init>", "()V"⟩, "AfterEachVowel"), ("AfterEachVowel", 80, ⟨"AfterEachVowel$Text", "<init>", "()V"⟩, "AfterEachVowel"), ("AfterEachVowel", 81, ⟨"AfterEachVowel$Sheet", "<init>", "()V"⟩, "AfterEachVowel"), ("AfterEachVowel$Sheet", 38, ⟨"AfterEachVowel", "isLetter", "(I)Z"⟩, "AfterEachVowel"), ("AfterEachVowel$State", 73, ⟨"AfterEachVowel", "isWithin", "(II)Z"⟩, "AfterEachVowel"), ("AfterEachVowel$State", 77, ⟨"AfterEachVowel", "isLetter", "(I)Z"⟩, "AfterEachVowel")]
def SRF : List (Nat × Nat × String × Nat) := [(10, 82, "hard long + vowels ; hides rules * 5 ; minds weight ;", 0), (8, 71, "long", 1), (8, 73, "vowels", 2), (8, 75, "rules", 3), (8, 77, "number", 4), (8, 79, "word", 5), (8, 81, "weight", 6), (8, 83, "hard", 7), (8, 85, "hides", 8), (8, 87, "minds", 9), (8, 89, "or", 10), (8, 91, "and", 11), (8, 93, "not", 12), (8, 48, "();+-*<=", 13)]
def SLN : List Nat := [53, 4, 6, 5, 6, 4, 6, 4, 5, 5, 2, 3, 3, 8]
def SBY : List (List Int32) := [[104, 97, 114, 100, 32, 108, 111, 110, 103, 32, 43, 32, 118, 111, 119, 101, 108, 115, 32, 59, 32, 104, 105, 100, 101, 115, 32, 114, 117, 108, 101, 115, 32, 42, 32, 53, 32, 59, 32, 109, 105, 110, 100, 115, 32, 119, 101, 105, 103, 104, 116, 32, 59], [108, 111, 110, 103], [118, 111, 119, 101, 108, 115], [114, 117, 108, 101, 115], [110, 117, 109, 98, 101, 114], [119, 111, 114, 100], [119, 101, 105, 103, 104, 116], [104, 97, 114, 100], [104, 105, 100, 101, 115], [109, 105, 110, 100, 115], [111, 114], [97, 110, 100], [110, 111, 116], [40, 41, 59, 43, 45, 42, 60, 61]]
def UND : List Int32 := [-1, 0, 0, 1, 2, 0]
/-- nest words hold; strings, statics and the script lie outside the world and are as they were -/
def KS (X : XT) (U : State) (H : Heap) : Prop :=
  (∀ q ∈ NWS, va_Nw (.methodLinkNest q.1 q.2.1 q.2.2.1 q.2.2.2) U) ∧ (∀ q ∈ SRF, vk_R (Rn q.1) q.2.1 q.2.2.1 (xa X q.2.2.2) U) ∧
  vk_S 14 SLN SBY (xa X) (fun k => xa X (200 + k)) (xA X) U H ∧
  va_Z "java/lang/String" "COMPACT_STRINGS" "Z" (.int 1) (xA X) U H ∧ va_Zq "jdk/internal/util/Preconditions" "SIOOBE_FORMATTER" "Ljava/util/function/BiFunction;" (xA X) U H ∧
  va_Z RX10 "UNDER" "[I" (.ref (xa X 100)) (xA X) U H ∧ va_T .int (xa X 100) 6 (fun j => .int (UND.getD j 0)) (xA X) U H ∧
  va_X (xa X 101) X.2.2.2.2.2.1 X.2.2.2.2.2.2 U H ∧ xa X 101 < xb X
theorem KS.go {X : XT} {s U : State} {H H1 : Heap} (h : KS X s H) (hW : s.WarmedH U.vm) (hb : xb X ≤ H.size) (hq : ∀ a : Nat, a < H.size → ¬ xA X a → H1[a]? = H[a]?) : KS X U H1 := by
  obtain ⟨h1, h2, h3, h4, h5, h6, h7, h8, h9⟩ := h
  have hvm := hW.alike
  refine ⟨fun q hq => (h1 q hq).warmM hW, fun q hq => (h2 q hq).warm hW, (h3.moved hvm).kept hq, (h4.moved hvm).kept hq, ?_, (h6.moved hvm).kept hq, (h7.moved hvm).kept hq, (h8.moved hvm).kept (hq _ (by omega) (Nat.not_le.mpr h9)), h9⟩
  rcases h5 with h5 | ⟨t, h5⟩
  · exact Or.inl ((h5.moved hvm).kept hq)
  · exact Or.inr ⟨t, (h5.moved hvm).kept hq⟩
end
section
/-- an instruction of a method: its place; the instruction, the next place, the target, a number -/
abbrev PE : Type := Nat × Instr × Nat × Nat × Int32
/-- a method: name, bytes, locals, type, class, instructions -/
abbrev MI : Type := MethodName × ByteArray × Nat × Option FieldType × Nat × List PE
/-- where a walk stands: launch, world, room, cells and slots made, method, end -/
abbrev GG : Type := Launch × XT × Room × Nat × Nat × MI × (List Frame → Array Value → State → State → Prop)
def ilen (i : Instr) : Nat := match i with
  | .iload _ | .lload _ | .aload _ | .istore _ | .lstore _ | .astore _ | .bipush _ | .ldc _ | .newarray _ => 2
  | .sipush _ | .iinc _ _ | .ifCond _ _ | .if_icmp _ _ | .goto _ | .getfield _ | .putfield _ | .getstatic _ | .invokevirtual _ | .invokespecial _ | .invokestatic _ | .new _ | .anewarray _ | .ldc_w _ | .ldc2_w _ => 3
  | .multianewarray _ _ => 4
  | _ => 1
def isSw (i : Instr) : Bool := match i with
  | .tableswitch _ _ _ _ | .lookupswitch _ _ => true
  | _ => false
def litE (own : Nat) (i : Instr) (pc tg : Nat) (lit : Int32) : Bool := match i with
  | .iconst n => Int32.ofInt n == lit
  | .bipush n => (Int8.ofInt n).toInt32 == lit
  | .sipush n => (Int16.ofInt n).toInt32 == lit
  | .iinc _ n => Int32.ofInt n == lit
  | .goto o | .ifCond _ o | .if_icmp _ o => (pc : Int) + o == (tg : Int)
  | .ldc x | .ldc_w x => (tg == 999 && CTS.any (fun q => q.1 == own && (q.2.1 == x && q.2.2.1 == lit))) || SRF.any (fun q => q.1 == own && (q.2.1 == x && q.2.2.2 == tg))
  | _ => true
def okE (own : Nat) (cc : ByteArray) (e : PE) : Bool :=
  decide (decode cc e.1 = .ok (e.2.1, e.2.2.1 - e.1)) && ((isSw e.2.1 || e.2.2.1 == e.1 + ilen e.2.1) && litE own e.2.1 e.1 e.2.2.2.1 e.2.2.2.2)
def okP (own : Nat) (cc : ByteArray) (pr : List PE) : Bool := pr.all (okE own cc)
theorem lookup_mem {pr : List PE} {pc : Nat} {q : Instr × Nat × Nat × Int32} (h : pr.lookup pc = some q) : (pc, q) ∈ pr := by
  induction pr with
  | nil => simp at h
  | cons a r ih =>
    obtain ⟨a1, a2⟩ := a
    rw [List.lookup_cons] at h
    by_cases e : (pc == a1) = true
    · rw [e] at h
      cases h
      have e2 : pc = a1 := by simpa using e
      subst e2
      exact List.mem_cons_self
    · have e2 : (pc == a1) = false := by simpa using e
      rw [e2] at h
      exact List.mem_cons_of_mem _ (ih h)
theorem fetch_ok {own : Nat} {cc : ByteArray} {pr : List PE} (hok : okP own cc pr = true) {pc : Nat} {q : Instr × Nat × Nat × Int32} (hf : pr.lookup pc = some q) :
    decode cc pc = .ok (q.1, q.2.1 - pc) ∧ (isSw q.1 = false → q.2.1 = pc + ilen q.1) ∧ litE own q.1 pc q.2.2.1 q.2.2.2 = true := by
  have h := List.all_eq_true.mp hok _ (lookup_mem hf)
  simp only [okE, Bool.and_eq_true, Bool.or_eq_true, decide_eq_true_eq, beq_iff_eq] at h
  refine ⟨h.1, fun hs => ?_, h.2.2⟩
  rcases h.2.1 with h1 | h1
  · rw [hs] at h1
    cases h1
  · exact h1
theorem fetch_1 {own : Nat} {cc : ByteArray} {pr : List PE} (hok : okP own cc pr = true) {pc np tg : Nat} {i : Instr} {lit : Int32} (hf : pr.lookup pc = some (i, np, tg, lit)) (hs : isSw i = false) : decode cc pc = .ok (i, ilen i) ∧ np = pc + ilen i := by
  obtain ⟨h1, h2, -⟩ := fetch_ok hok hf
  have h2 : np = pc + ilen i := h2 hs
  refine ⟨?_, h2⟩
  have h1 : decode cc pc = .ok (i, np - pc) := h1
  rw [h1, h2, Nat.add_sub_cancel_left]
def Cx (G : GG) (p : Program) (e : Env) (s : State) (mid : MethodId) (args : Array Value) (meth : Method) (c : Code) : Prop :=
  p.tables.exec = Jvm.exec ∧ c.code = G.2.2.2.2.2.1.2.1 ∧ meth.sig.returnType = G.2.2.2.2.2.1.2.2.2.1 ∧ c.maxLocals = G.2.2.2.2.2.1.2.2.1 ∧ s.vm.findClass (Rn G.2.2.2.2.2.1.2.2.2.2.1) = some mid.cls ∧ (∀ w ∈ GT, w.before args s = true) ∧ meth.locks = false ∧
  va_K (xD G.2.1) vwCl (tysOf G.2.1) s ∧ KS G.2.1 s s.heap ∧ (xN G.2.1 = NC ∨ xN G.2.1 = NTT) ∧ xb G.2.1 ≤ s.heap.size ∧ G.2.2.2.1 ≤ G.2.2.1.cells ∧ G.2.2.2.2.1 ≤ G.2.2.1.slots ∧ okP G.2.2.2.2.2.1.2.2.2.2.1 G.2.2.2.2.2.1.2.1 G.2.2.2.2.2.1.2.2.2.2.2 = true
/-- the walk ends well from here -/
def AW (G : GG) (pc : Nat) (ls st : List AV) (m : Mem) : Prop :=
  ls.length = G.2.2.2.2.2.1.2.2.1 → okl G.2.1 ls → okl G.2.1 st → ∀ (p : Program) (e : Env) (s : State) (mid : MethodId) (args : Array Value) (below : List Frame) (meth : Method) (c : Code), Cx G p e s mid args meth c →
    ∀ (H : Heap) (locs : List Loc) (la : Array Slot), va_P (xD G.2.1) vwCl (wsOf G.2.1 m) H → va_S (xA G.2.1) s.heap H locs → lRep G.2.1 ls la →
      W p G.1 e G.2.2.1 s mid args below meth c H locs G.2.2.2.1 G.2.2.2.2.1 (G.2.2.2.2.2.2 below args s) (F0 mid pc la (st.map (cv G.2.1)))
-- ===== one instruction, over what is known =====
abbrev AR : Type := Option (Prop × Nat × List AV × List AV × Mem)
def sBin (f : Int32 → Int32 → Int32) (np : Nat) (ls st : List AV) (m : Mem) : AR := match st with
  | .inl y :: .inl x :: r => some (True, np, ls, .inl (f x y) :: r, m)
  | _ => none
def sDiv (f : Int32 → Int32 → Int32) (np : Nat) (ls st : List AV) (m : Mem) : AR := match st with
  | .inl y :: .inl x :: r => some (¬ y = 0, np, ls, .inl (f x y) :: r, m)
  | _ => none
def sUn (f : Int32 → Int32) (np : Nat) (ls st : List AV) (m : Mem) : AR := match st with
  | .inl x :: r => some (True, np, ls, .inl (f x) :: r, m)
  | _ => none
def sBinJ (f : Int64 → Int64 → Int64) (np : Nat) (ls st : List AV) (m : Mem) : AR := match st with
  | .inr (.inl y) :: .inr (.inl x) :: r => some (True, np, ls, .inr (.inl (f x y)) :: r, m)
  | _ => none
def sDivJ (f : Int64 → Int64 → Int64) (np : Nat) (ls st : List AV) (m : Mem) : AR := match st with
  | .inr (.inl y) :: .inr (.inl x) :: r => some (¬ y = 0, np, ls, .inr (.inl (f x y)) :: r, m)
  | _ => none
def sLd (k : Nat) (c : Nat) (np : Nat) (ls st : List AV) (m : Mem) : AR := match ls.getD k vU with
  | .inl x => if c == 0 then some (True, np, ls, .inl x :: st, m) else none
  | .inr (.inl x) => if c == 1 then some (True, np, ls, .inr (.inl x) :: st, m) else none
  | .inr (.inr q) => if c == 2 && !(q.1 == 0) then some (True, np, ls, .inr (.inr q) :: st, m) else none
def sSt (k : Nat) (c : Nat) (np : Nat) (ls st : List AV) (m : Mem) : AR := match st with
  | .inl x :: r => if c == 0 && (decide (k < ls.length) && noL ls k) then some (True, np, ls.set k (.inl x), r, m) else none
  | .inr (.inl x) :: r => if c == 1 && (decide (k + 1 < ls.length) && noL ls k) then some (True, np, (ls.set k (.inr (.inl x))).set (k + 1) vU, r, m) else none
  | .inr (.inr q) :: r => if c == 2 && (decide (k < ls.length) && noL ls k) then some (True, np, ls.set k (.inr (.inr q)), r, m) else none
  | _ => none
def sInc (k : Nat) (lit : Int32) (np : Nat) (ls st : List AV) (m : Mem) : AR := match ls.getD k vU with
  | .inl x => if noL ls k then some (True, np, ls.set k (.inl (x + lit)), st, m) else none
  | _ => none
def ftO (own idx : Nat) : Option (Nat × Nat × Nat) := (FTS.getD own []).lookup idx
def sGet (own idx np : Nat) (ls st : List AV) (m : Mem) : AR := match st with
  | .inr (.inr (t, h)) :: r => match ftO own idx with
    | some (t', k, _) => if t == t' then (match (shp t).getD k (0, 0) with
        | (t2, o) => if t2 == 0 then some (True, np, ls, .inl (m h k) :: r, m) else if o == 9999 then some (layT (m h k).toNatClampNeg = t2, np, ls, .inr (.inr (t2, (m h k).toNatClampNeg)) :: r, m) else some (True, np, ls, .inr (.inr (t2, h + o)) :: r, m)) else none
    | none => none
  | _ => none
def sPut (own idx np : Nat) (ls st : List AV) (m : Mem) : AR := match st with
  | .inl x :: .inr (.inr (t, h)) :: r => match ftO own idx with
    | some (t', k, _) => if t == t' then (match (shp t).getD k (1, 0) with
        | (0, 0) => some (True, np, ls, r, mUp m h k x)
        | (0, 1) => some (x = 0 ∨ x = 1, np, ls, r, mUp m h k x)
        | _ => none) else none
    | none => none
  | .inr (.inr (t2, h2)) :: .inr (.inr (t, h)) :: r => match ftO own idx with
    | some (t', k, _) => if t == t' && (t2 == ((shp t).getD k (0, 0)).1 && (((shp t).getD k (0, 0)).2 == 9999 && !(t2 == 0))) then some (True, np, ls, r, mUp m h k (Int32.ofNat h2)) else none
    | none => none
  | _ => none
def sAld (lo hi : Nat) (np : Nat) (ls st : List AV) (m : Mem) : AR := match st with
  | .inl i :: .inr (.inr (t, h)) :: r => if decide (lo ≤ t) && decide (t < hi) then some (vp_in i (t - lo), np, ls, .inl (m h i.toNatClampNeg) :: r, m) else none
  | _ => none
def sAst (lo hi : Nat) (np : Nat) (ls st : List AV) (m : Mem) : AR := match st with
  | .inl x :: .inl i :: .inr (.inr (t, h)) :: r => if decide (lo ≤ t) && decide (t < hi) then some (vp_in i (t - lo) ∧ (lo = 4000 → x = 0 ∨ x = 1), np, ls, r, mUp m h i.toNatClampNeg x) else none
  | _ => none
def sAal (np : Nat) (ls st : List AV) (m : Mem) : AR := match st with
  | .inl i :: .inr (.inr (t, h)) :: r => if decide (20 ≤ t) && decide (t < 25) then (match rtb t with
      | (a, b, c, e) => some (vp_in i a, np, ls, .inr (.inr (e, h + b + c * i.toNatClampNeg)) :: r, m)) else none
  | _ => none
def astep (own : Nat) (q : Instr × Nat × Nat × Int32) (ls st : List AV) (m : Mem) : AR := match q with
  | (i, np, tg, lit) => match i with
  | .iconst _ => some (True, np, ls, .inl lit :: st, m)
  | .bipush _ => some (True, np, ls, .inl lit :: st, m)
  | .sipush _ => some (True, np, ls, .inl lit :: st, m)
  | .ldc _ => if tg == 999 then some (True, np, ls, .inl lit :: st, m) else none
  | .ldc_w _ => if tg == 999 then some (True, np, ls, .inl lit :: st, m) else none
  | .lconst n => some (True, np, ls, .inr (.inl (Int64.ofNat n.val)) :: st, m)
  | .iload k => sLd k 0 np ls st m
  | .iload_n k => sLd k.val 0 np ls st m
  | .lload k => sLd k 1 np ls st m
  | .lload_n k => sLd k.val 1 np ls st m
  | .aload k => sLd k 2 np ls st m
  | .aload_n k => sLd k.val 2 np ls st m
  | .istore k => sSt k 0 np ls st m
  | .istore_n k => sSt k.val 0 np ls st m
  | .lstore k => sSt k 1 np ls st m
  | .lstore_n k => sSt k.val 1 np ls st m
  | .astore k => sSt k 2 np ls st m
  | .astore_n k => sSt k.val 2 np ls st m
  | .iinc k _ => sInc k lit np ls st m
  | .iadd => sBin (fun x y => x + y) np ls st m
  | .isub => sBin (fun x y => x - y) np ls st m
  | .imul => sBin (fun x y => x * y) np ls st m
  | .iand => sBin (fun x y => x &&& y) np ls st m
  | .ior => sBin (fun x y => x ||| y) np ls st m
  | .ishl => sBin (fun x y => x <<< (y &&& 31)) np ls st m
  | .ishr => sBin (fun x y => x >>> (y &&& 31)) np ls st m
  | .iushr => sBin (fun x y => (x.toUInt32 >>> (y.toUInt32 &&& Int32.toUInt32 31)).toInt32) np ls st m
  | .idiv => sDiv (fun x y => x / y) np ls st m
  | .irem => sDiv (fun x y => x - x / y * y) np ls st m
  | .ineg => sUn (fun x => -x) np ls st m
  | .i2b => sUn (fun x => x.toInt8.toInt32) np ls st m
  | .i2s => sUn (fun x => x.toInt16.toInt32) np ls st m
  | .i2c => sUn (fun x => (x.toUInt32 % 65536).toInt32) np ls st m
  | .i2l => match st with
    | .inl x :: r => some (True, np, ls, .inr (.inl x.toInt64) :: r, m)
    | _ => none
  | .l2i => match st with
    | .inr (.inl x) :: r => some (True, np, ls, .inl x.toInt32 :: r, m)
    | _ => none
  | .ladd => sBinJ (fun x y => x + y) np ls st m
  | .lmul => sBinJ (fun x y => x * y) np ls st m
  | .ldiv => sDivJ (fun x y => x / y) np ls st m
  | .lrem => sDivJ (fun x y => x - x / y * y) np ls st m
  | .dup => match st with
    | .inl x :: r => some (True, np, ls, .inl x :: .inl x :: r, m)
    | .inr (.inr x) :: r => some (True, np, ls, .inr (.inr x) :: .inr (.inr x) :: r, m)
    | _ => none
  | .pop => match st with
    | .inl _ :: r => some (True, np, ls, r, m)
    | .inr (.inr _) :: r => some (True, np, ls, r, m)
    | _ => none
  | .goto _ => some (True, tg, ls, st, m)
  | .lcmp => match st with
    | .inr (.inl y) :: .inr (.inl x) :: r => some (True, np, ls, .inl (lg_cmp x y) :: r, m)
    | _ => none
  | .ldc2_w j => match LTS.find? (fun e => e.1 == own && e.2.1 == j) with
    | some e => some (True, np, ls, .inr (.inl e.2.2.1) :: st, m)
    | none => none
  | .getfield j => sGet own j np ls st m
  | .putfield j => sPut own j np ls st m
  | .iaload => sAld 1000 4000 np ls st m
  | .baload => sAld 4000 5000 np ls st m
  | .caload => sAld 5000 6000 np ls st m
  | .iastore => sAst 1000 4000 np ls st m
  | .bastore => sAst 4000 5000 np ls st m
  | .aaload => sAal np ls st m
  | _ => none
end
section
-- ===== what the tables and the layout say =====
def fokS (T : u_T) (k : Nat) (q : Nat × Nat) : Bool := match q with
  | (0, 0) => !(T k).2.2.2 && decide (parseFieldDescriptor (T k).2.2.1 = some .int)
  | (0, _) => !(T k).2.2.2 && decide (parseFieldDescriptor (T k).2.2.1 = some .boolean)
  | (t + 1, o) => if o == 9999 then !(T k).2.2.2 && decide (parseFieldDescriptor (T k).2.2.1 = some (.object (Rn t))) else true
def fok (own : Nat) (e : Nat × Nat × Nat × Nat) : Bool := match vwCl[e.2.1 - 1]? with
  | none => false
  | some q => decide (lw_tbl[e.2.2.2]? = some (.fieldLink (Rn own) e.1 (q.2.1 e.2.2.1).1 (q.2.1 e.2.2.1).2.1 (q.2.1 e.2.2.1).2.2.1)) && (decide (e.2.2.1 < q.2.2) && (decide ((shp e.2.1).length = q.2.2) && (decide (0 < e.2.1) && (decide (e.2.1 < 20) && fokS q.2.1 e.2.2.1 ((shp e.2.1).getD e.2.2.1 (0, 0))))))
theorem FTS_ok : (List.range 13).all (fun own => (FTS.getD own []).all (fok own)) = true := by decide +kernel
theorem lookup_in {pr : List (Nat × Nat × Nat × Nat)} {i : Nat} {q : Nat × Nat × Nat} (h : pr.lookup i = some q) : (i, q) ∈ pr := by
  induction pr with
  | nil => simp at h
  | cons a r ih =>
    obtain ⟨a1, a2⟩ := a
    rw [List.lookup_cons] at h
    by_cases e : (i == a1) = true
    · rw [e] at h
      cases h
      have e2 : i = a1 := by simpa using e
      subst e2
      exact List.mem_cons_self
    · have e2 : (i == a1) = false := by simpa using e
      rw [e2] at h
      exact List.mem_cons_of_mem _ (ih h)
theorem ft_ok {own idx t k pos : Nat} (h : ftO own idx = some (t, k, pos)) : ∃ (C : String) (T : u_T) (N : Nat), vwCl[t - 1]? = some (C, T, N) ∧ Cond.fieldLink (Rn own) idx (T k).1 (T k).2.1 (T k).2.2.1 ∈ GT ∧ k < N ∧ (shp t).length = N ∧ 0 < t ∧ t < 20 ∧ fokS T k ((shp t).getD k (0, 0)) = true := by
  unfold ftO at h
  have hown : own < 13 := by
    rcases Nat.lt_or_ge own 13 with q | q
    · exact q
    · have hl : FTS.length = 13 := by decide +kernel
      rw [List.getD_eq_getElem?_getD, List.getElem?_eq_none (by omega)] at h
      simp at h
  have h1 := List.all_eq_true.mp FTS_ok own (List.mem_range.mpr hown)
  have h2 := List.all_eq_true.mp h1 _ (lookup_in h)
  unfold fok at h2
  dsimp only at h2
  cases hc : vwCl[t - 1]? with
  | none => rw [hc] at h2; cases h2
  | some q =>
    obtain ⟨C, T, N⟩ := q
    rw [hc] at h2
    simp only [Bool.and_eq_true, decide_eq_true_eq] at h2
    obtain ⟨g1, g2, g3, g4, g5, g6⟩ := h2
    exact ⟨C, T, N, rfl, GT_in pos g1 rfl, g2, g3, g4, g5, g6⟩
theorem cls_in {ci : Nat} {C : String} {T : u_T} {N : Nat} (h : vwCl[ci]? = some (C, T, N)) : ∀ w ∈ u_ws C T N, w ∈ GT := by
  match ci, h with
  | 0, h => cases h; exact inG0
  | 1, h => cases h; exact inG1
  | 2, h => cases h; exact inG2
  | 3, h => cases h; exact inG3
  | 4, h => cases h; exact inG4
  | 5, h => cases h; exact inG5
  | 6, h => cases h; exact inG6
  | 7, h => cases h; exact inG7
  | 8, h => cases h; exact inG8
  | 9, h => cases h; exact inG9
  | 10, h => cases h; exact inG10
  | 11, h => cases h; exact inG11
  | k + 12, h => simp [vwCl] at h
theorem cls_ty {ci : Nat} {C : String} {T : u_T} {N : Nat} (h : vwCl[ci]? = some (C, T, N)) : ∃ ty0 : Nat → FieldType, (∀ k, k < N → parseFieldDescriptor (T k).2.2.1 = some (ty0 k)) ∧ (∀ a, a < N → ∀ b, b < N → a ≠ b → (T a).2.1 ≠ (T b).2.1) := by
  match ci, h with
  | 0, h => cases h; exact ⟨_, tyX0_ok, nmX0⟩
  | 1, h => cases h; exact ⟨_, tyX1_ok, nmX1⟩
  | 2, h => cases h; exact ⟨_, tyX2_ok, nmX2⟩
  | 3, h => cases h; exact ⟨_, tyX3_ok, nmX3⟩
  | 4, h => cases h; exact ⟨_, tyX4_ok, nmX4⟩
  | 5, h => cases h; exact ⟨_, tyX5_ok, nmX5⟩
  | 6, h => cases h; exact ⟨_, tyX6_ok, nmX6⟩
  | 7, h => cases h; exact ⟨_, tyX7_ok, nmX7⟩
  | 8, h => cases h; exact ⟨_, tyX8_ok, nmX8⟩
  | 9, h => cases h; exact ⟨_, tyX9_ok, nmX9⟩
  | 10, h => cases h; exact ⟨_, tyX10_ok, nmX10⟩
  | 11, h => cases h; exact ⟨_, tyX11_ok, nmX11⟩
  | k + 12, h => simp [vwCl] at h
theorem CTS_ok : CTS.all (fun q => decide (lw_tbl[q.2.2.2]? = some (.constant (Rn q.1) q.2.1 q.2.2.1))) = true := by decide +kernel
theorem LTS_ok : LTS.all (fun q => decide (lw_tbl[q.2.2.2]? = some (.constantLong (Rn q.1) q.2.1 q.2.2.1))) = true := by decide +kernel
theorem ct_ok {own x : Nat} {lit : Int32} (h : CTS.any (fun q => q.1 == own && (q.2.1 == x && q.2.2.1 == lit)) = true) : Cond.constant (Rn own) x lit ∈ GT := by
  obtain ⟨q, hq, h1⟩ := List.any_eq_true.mp h
  simp only [Bool.and_eq_true, beq_iff_eq] at h1
  obtain ⟨rfl, rfl, rfl⟩ := h1
  have h2 := List.all_eq_true.mp CTS_ok q hq
  simp only [decide_eq_true_eq] at h2
  exact GT_in _ h2 rfl
theorem lt_ok {own x : Nat} {e : Nat × Nat × Int64 × Nat} (h : LTS.find? (fun e => e.1 == own && e.2.1 == x) = some e) : Cond.constantLong (Rn own) x e.2.2.1 ∈ GT := by
  have h0 := List.find?_some h
  have h1 := List.mem_of_find?_eq_some h
  simp only [Bool.and_eq_true, beq_iff_eq] at h0
  obtain ⟨rfl, rfl⟩ := h0
  have h2 := List.all_eq_true.mp LTS_ok e h1
  simp only [decide_eq_true_eq] at h2
  exact GT_in _ h2 rfl
-- the layout is closed
def cloB (N : Nat) : Bool := (List.range N).all (fun h => (if layT h < 20 then (shp (layT h)).all (fun q => q.1 == 0 || (q.2 == 9999 || (decide (h + q.2 < N) && layT (h + q.2) == q.1))) else true) &&
  (if layT h < 25 && 20 ≤ layT h then (List.range (rlen (layT h))).all (fun i => decide (h + roff (layT h) + rstr (layT h) * i < N) && layT (h + roff (layT h) + rstr (layT h) * i) == rty (layT h)) else true) && !isX (layT h))
theorem clo1 : cloB NC = true := by decide +kernel
theorem clo2 : cloB NTT = true := by decide +kernel
theorem clo {N : Nat} (h : N = NC ∨ N = NTT) : cloB N = true := by
  rcases h with rfl | rfl
  · exact clo1
  · exact clo2
theorem layT_lt {h : Nat} (g : ¬ layT h = 0) : h < NTT := by
  rcases Nat.lt_or_ge h NTT with q | q
  · exact q
  · exfalso
    apply g
    unfold layT
    rw [List.getD_eq_getElem?_getD, List.getElem?_eq_none]
    · rfl
    · have : LAY.length = NTT := by decide +kernel
      omega
theorem layT_C : (List.range NTT).all (fun h => !(layT h == 9 || layT h == 10) || decide (h < NC)) = true := by decide +kernel
theorem shp_V : SHP.all (fun s => s.all (fun q => !(q.2 == 9999) || (q.1 == 0 || (q.1 == 9 || q.1 == 10)))) = true := by decide +kernel
theorem clo_X {N h : Nat} (hN : N = NC ∨ N = NTT) (hh : h < N) : isX (layT h) = false := by
  have h1 := List.all_eq_true.mp (clo hN) h (List.mem_range.mpr hh)
  simp only [Bool.and_eq_true, Bool.not_eq_true'] at h1
  exact h1.2
theorem clo_f {N h k t2 o : Nat} (hN : N = NC ∨ N = NTT) (hh : h < N) (ht : layT h < 20) (hk : (shp (layT h)).getD k (0, 0) = (t2 + 1, o)) (ho : ¬ o = 9999) : h + o < N ∧ layT (h + o) = t2 + 1 := by
  have h1 := List.all_eq_true.mp (clo hN) h (List.mem_range.mpr hh)
  simp only [Bool.and_eq_true] at h1
  have h2 := h1.1.1
  rw [if_pos ht] at h2
  have hm : (t2 + 1, o) ∈ shp (layT h) := by
    rw [List.getD_eq_getElem?_getD] at hk
    cases hl : (shp (layT h))[k]? with
    | none => rw [hl] at hk; cases hk
    | some q => rw [hl] at hk; have hk : q = (t2 + 1, o) := hk; subst hk; exact List.mem_of_getElem? hl
  have h3 := List.all_eq_true.mp h2 _ hm
  simp only [Bool.or_eq_true, Bool.and_eq_true, beq_iff_eq, decide_eq_true_eq] at h3
  rcases h3 with h3 | h3 | h3
  · exact absurd h3 (Nat.succ_ne_zero _)
  · exact absurd h3 ho
  · exact h3
theorem clo_a {N h i : Nat} (hN : N = NC ∨ N = NTT) (hh : h < N) (ht : layT h < 25) (ht2 : 20 ≤ layT h) (hi : i < rlen (layT h)) : h + roff (layT h) + rstr (layT h) * i < N ∧ layT (h + roff (layT h) + rstr (layT h) * i) = rty (layT h) := by
  have h1 := List.all_eq_true.mp (clo hN) h (List.mem_range.mpr hh)
  simp only [Bool.and_eq_true] at h1
  have h2 := h1.1.2
  rw [if_pos (by simp [ht, ht2])] at h2
  have h3 := List.all_eq_true.mp h2 _ (List.mem_range.mpr hi)
  simp only [Bool.and_eq_true, beq_iff_eq, decide_eq_true_eq] at h3
  exact h3
theorem clo_v {N t k t2 o h : Nat} (hN : N = NC ∨ N = NTT) (hk : (shp t).getD k (0, 0) = (t2 + 1, o)) (ho : o = 9999) (hl : layT h = t2 + 1) : h < N ∧ isX (t2 + 1) = false := by
  have hm : (t2 + 1, o) ∈ shp t := by
    rw [List.getD_eq_getElem?_getD] at hk
    cases hl : (shp t)[k]? with
    | none => rw [hl] at hk; cases hk
    | some q => rw [hl] at hk; have hk : q = (t2 + 1, o) := hk; subst hk; exact List.mem_of_getElem? hl
  have hs : shp t ∈ SHP := by
    unfold shp at hm ⊢
    rw [List.getD_eq_getElem?_getD] at hm ⊢
    cases hl : SHP[t]? with
    | none => rw [hl] at hm; simp at hm
    | some q => exact List.mem_of_getElem? hl
  have h1 := List.all_eq_true.mp (List.all_eq_true.mp shp_V _ hs) _ hm
  simp only [Bool.or_eq_true, Bool.not_eq_true', beq_iff_eq] at h1
  have h9 : t2 + 1 = 9 ∨ t2 + 1 = 10 := by
    rcases h1 with h1 | h1 | h1
    · subst ho; cases h1
    · exact absurd h1 (Nat.succ_ne_zero _)
    · exact h1
  have hlt : h < NTT := layT_lt (by rw [hl]; exact Nat.succ_ne_zero _)
  have h2 := List.all_eq_true.mp layT_C h (List.mem_range.mpr hlt)
  simp only [Bool.or_eq_true, Bool.not_eq_true', decide_eq_true_eq] at h2
  have h3 : h < NC := by
    rcases h2 with h2 | h2
    · rw [hl] at h2
      rcases h9 with q | q <;> rw [q] at h2 <;> cases h2
    · exact h2
  refine ⟨?_, ?_⟩
  · rcases hN with rfl | rfl
    · exact h3
    · exact hlt
  · rcases h9 with q | q <;> rw [q] <;> rfl
-- the cells
theorem fs_get {X : XT} {m : Mem} {h t k : Nat} (hk : k < (shp t).length) : (fsOf X m h t)[k]? = some (slotV X m h k ((shp t).getD k (0, 0))) := by
  simp [fsOf, List.getElem?_range hk]
theorem fs_len {X : XT} {m : Mem} {h t : Nat} : (fsOf X m h t).length = (shp t).length := by simp [fsOf]
theorem fs_up {X : XT} {m : Mem} {h t k : Nat} {x : Int32} : fsOf X (mUp m h k x) h t = (fsOf X m h t).set k (slotV X (mUp m h k x) h k ((shp t).getD k (0, 0))) := by
  apply List.ext_getElem?
  intro j
  by_cases hj : j < (shp t).length
  · rw [fs_get hj, List.getElem?_set]
    by_cases e : k = j
    · subst e
      rw [if_pos rfl, if_pos (by rw [fs_len]; exact hj)]
    · rw [if_neg e, fs_get hj]
      have e2 : mUp m h k x h j = m h j := mUp_n (Or.inr (fun q => e q.symm))
      unfold slotV
      rw [e2]
  · rw [List.getElem?_eq_none (by rw [fs_len]; omega), List.getElem?_eq_none (by rw [List.length_set, fs_len]; omega)]
theorem cel_o {X : XT} {m : Mem} {h t : Nat} (hl : layT h = t) (ht : t < 20) : celE X m h = .inr (t - 1, fsOf X m h t) := by
  subst hl
  unfold celE
  rw [if_pos ht]
theorem cel_r {X : XT} {m : Mem} {h t : Nat} (hl : layT h = t) (h1 : 20 ≤ t) (h2 : t < 25) : celE X m h = .inl (xc X t, rlen t, .inr (.inr (.inr (.inr (fun i => some (xb X + (h + roff t + rstr t * i))))))) := by
  subst hl
  unfold celE
  rw [if_neg (by omega), if_pos (by omega)]
theorem cel_i {X : XT} {m : Mem} {h t : Nat} (hl : layT h = t) (h1 : 1000 ≤ t) (h2 : t < 4000) : celE X m h = .inl (xc X 0, t - 1000, .inl (m h)) := by
  subst hl
  unfold celE
  rw [if_neg (by omega), if_neg (by omega), if_pos h2]
theorem cel_z {X : XT} {m : Mem} {h t : Nat} (hl : layT h = t) (h1 : 4000 ≤ t) (h2 : t < 5000) : celE X m h = .inl (xc X 1, t - 4000, .inl (m h)) := by
  subst hl
  unfold celE
  rw [if_neg (by omega), if_neg (by omega), if_neg (by omega), if_pos h2]
theorem cel_c {X : XT} {m : Mem} {h t : Nat} (hl : layT h = t) (h1 : 5000 ≤ t) : celE X m h = .inl (xc X 2, t - 5000, .inl (m h)) := by
  subst hl
  unfold celE
  rw [if_neg (by omega), if_neg (by omega), if_neg (by omega), if_neg (by omega)]
end
section
-- ===== a step of the abstract walk is a step of the machine =====
abbrev WU (i : Instr) (n : Nat) (st st' : List Value) : Prop := ∀ (p : Program) (l : Launch) (e : Env) (R : Room) (s : State) (m : MethodId) (args : Array Value) (below : List Frame) (meth : Method) (c : Code) (H : Heap) (locs : List Loc) (cells slots : Nat) (Q : State → Prop) (cc : ByteArray) (pc : Nat) (la : Array Slot),
  p.tables.exec = Jvm.exec → c.code = cc → decode cc pc = .ok (i, n) → W p l e R s m args below meth c H locs cells slots Q (F0 m (pc + n) la st') → W p l e R s m args below meth c H locs cells slots Q (F0 m pc la st)
section
variable {G : GG} {pc np tg : Nat} {lit : Int32} {i : Instr} {ls st st' : List AV} {m : Mem}
theorem aw_pure (hf : G.2.2.2.2.2.1.2.2.2.2.2.lookup pc = some (i, np, tg, lit)) (hi : isSw i = false) (ho : okl G.2.1 st → okl G.2.1 ls → okl G.2.1 st') (hw : WU i (ilen i) (st.map (cv G.2.1)) (st'.map (cv G.2.1))) (k : AW G np ls st' m) : AW G pc ls st m := by
  intro hl hol hos p e s mid args below meth c C H locs la hPw hS hL
  obtain ⟨hx, hb, -, -, -, -, -, -, -, -, -, -, -, hok⟩ := id C
  obtain ⟨hd, hn⟩ := fetch_1 hok hf hi
  subst hn
  exact hw _ _ _ _ _ _ _ _ _ _ _ _ _ _ _ _ _ _ hx hb hd (k hl hol (ho hos hol) p e s mid args below meth c C H locs la hPw hS hL)
theorem okl_cons {X : XT} {v : AV} {l : List AV} : okl X (v :: l) ↔ okv X v ∧ okl X l := List.forall_mem_cons
theorem okl_nil {X : XT} : okl X [] := fun _ h => absurd h List.not_mem_nil
theorem okl_set {X : XT} {l : List AV} {v : AV} {k : Nat} (h : okl X l) (hv : okv X v) : okl X (l.set k v) := fun w hw => by
  rcases List.mem_or_eq_of_mem_set hw with q | q
  · exact h w q
  · rw [q]; exact hv
theorem okv_U {X : XT} : okv X vU := Or.inl rfl
theorem okl_getD {X : XT} {l : List AV} {k : Nat} {v : AV} (h : okl X l) (hk : l.getD k vU = v) : okv X v := by
  rw [List.getD_eq_getElem?_getD] at hk
  cases hl : l[k]? with
  | none => rw [hl] at hk; rw [← hk]; exact okv_U
  | some w => rw [hl] at hk; have hk : w = v := hk; subst hk; exact h w (List.mem_of_getElem? hl)
theorem okr_cell {X : XT} {t h : Nat} (ho : okr X t h) (h0 : ¬ t = 0) (hx : isX t = false) : h < xN X ∧ layT h = t := by
  rcases ho with q | q | q
  · exact absurd q h0
  · rw [hx] at q; cases q.1
  · exact q.2
theorem aof_in {X : XT} {t h : Nat} (hx : isX t = false) : aof X t h = xb X + h := by
  unfold aof
  rw [hx]
  rfl
theorem isX_lt {t : Nat} (h : t < 50) : isX t = false := by
  unfold isX
  simp only [Bool.or_eq_false_iff, beq_eq_false_iff_ne]
  omega
theorem isX_gt {t : Nat} (h : 53 ≤ t) : isX t = false := by
  unfold isX
  simp only [Bool.or_eq_false_iff, beq_eq_false_iff_ne]
  omega
variable {P : Prop} {np' : Nat} {ls' : List AV} {m' : Mem}
theorem sBin_inv {f : Int32 → Int32 → Int32} (h : sBin f np ls st m = some (P, np', ls', st', m')) : ∃ x y r, st = vI y :: vI x :: r ∧ np' = np ∧ ls' = ls ∧ st' = vI (f x y) :: r ∧ m' = m := by
  unfold sBin at h
  split at h
  · cases h
    exact ⟨_, _, _, rfl, rfl, rfl, rfl, rfl⟩
  · cases h
theorem sDiv_inv {f : Int32 → Int32 → Int32} (h : sDiv f np ls st m = some (P, np', ls', st', m')) (hP : P) : ∃ x y r, st = vI y :: vI x :: r ∧ np' = np ∧ ls' = ls ∧ st' = vI (f x y) :: r ∧ m' = m ∧ ¬ y = 0 := by
  unfold sDiv at h
  split at h
  · cases h
    exact ⟨_, _, _, rfl, rfl, rfl, rfl, rfl, hP⟩
  · cases h
theorem sUn_inv {f : Int32 → Int32} (h : sUn f np ls st m = some (P, np', ls', st', m')) : ∃ x r, st = vI x :: r ∧ np' = np ∧ ls' = ls ∧ st' = vI (f x) :: r ∧ m' = m := by
  unfold sUn at h
  split at h
  · cases h
    exact ⟨_, _, rfl, rfl, rfl, rfl, rfl⟩
  · cases h
theorem sBinJ_inv {f : Int64 → Int64 → Int64} (h : sBinJ f np ls st m = some (P, np', ls', st', m')) : ∃ x y r, st = vJ y :: vJ x :: r ∧ np' = np ∧ ls' = ls ∧ st' = vJ (f x y) :: r ∧ m' = m := by
  unfold sBinJ at h
  split at h
  · cases h
    exact ⟨_, _, _, rfl, rfl, rfl, rfl, rfl⟩
  · cases h
theorem sDivJ_inv {f : Int64 → Int64 → Int64} (h : sDivJ f np ls st m = some (P, np', ls', st', m')) (hP : P) : ∃ x y r, st = vJ y :: vJ x :: r ∧ np' = np ∧ ls' = ls ∧ st' = vJ (f x y) :: r ∧ m' = m ∧ ¬ y = 0 := by
  unfold sDivJ at h
  split at h
  · cases h
    exact ⟨_, _, _, rfl, rfl, rfl, rfl, rfl, hP⟩
  · cases h
-- an operation on the stack's ints
theorem aw_bin {f : Int32 → Int32 → Int32} (hf : G.2.2.2.2.2.1.2.2.2.2.2.lookup pc = some (i, np, tg, lit)) (hi : isSw i = false) (hw : ∀ x y rest, WU i (ilen i) (.int y :: .int x :: rest) (.int (f x y) :: rest)) (h : sBin f np ls st m = some (P, np', ls', st', m')) (k : AW G np' ls' st' m') : AW G pc ls st m := by
  obtain ⟨x, y, r, rfl, rfl, rfl, rfl, rfl⟩ := sBin_inv h
  exact aw_pure (st' := vI (f x y) :: r) hf hi (fun q _ => okl_cons.mpr ⟨trivial, (okl_cons.mp (okl_cons.mp q).2).2⟩) (hw x y _) k
theorem aw_div {f : Int32 → Int32 → Int32} (hf : G.2.2.2.2.2.1.2.2.2.2.2.lookup pc = some (i, np, tg, lit)) (hi : isSw i = false) (hw : ∀ x y rest, ¬ y = 0 → WU i (ilen i) (.int y :: .int x :: rest) (.int (f x y) :: rest)) (h : sDiv f np ls st m = some (P, np', ls', st', m')) (hP : P) (k : AW G np' ls' st' m') : AW G pc ls st m := by
  obtain ⟨x, y, r, rfl, rfl, rfl, rfl, rfl, hy⟩ := sDiv_inv h hP
  exact aw_pure (st' := vI (f x y) :: r) hf hi (fun q _ => okl_cons.mpr ⟨trivial, (okl_cons.mp (okl_cons.mp q).2).2⟩) (hw x y _ hy) k
theorem aw_un {f : Int32 → Int32} (hf : G.2.2.2.2.2.1.2.2.2.2.2.lookup pc = some (i, np, tg, lit)) (hi : isSw i = false) (hw : ∀ x rest, WU i (ilen i) (.int x :: rest) (.int (f x) :: rest)) (h : sUn f np ls st m = some (P, np', ls', st', m')) (k : AW G np' ls' st' m') : AW G pc ls st m := by
  obtain ⟨x, r, rfl, rfl, rfl, rfl, rfl⟩ := sUn_inv h
  exact aw_pure (st' := vI (f x) :: r) hf hi (fun q _ => okl_cons.mpr ⟨trivial, (okl_cons.mp q).2⟩) (hw x _) k
theorem aw_binJ {f : Int64 → Int64 → Int64} (hf : G.2.2.2.2.2.1.2.2.2.2.2.lookup pc = some (i, np, tg, lit)) (hi : isSw i = false) (hw : ∀ x y rest, WU i (ilen i) (.long y :: .long x :: rest) (.long (f x y) :: rest)) (h : sBinJ f np ls st m = some (P, np', ls', st', m')) (k : AW G np' ls' st' m') : AW G pc ls st m := by
  obtain ⟨x, y, r, rfl, rfl, rfl, rfl, rfl⟩ := sBinJ_inv h
  exact aw_pure (st' := vJ (f x y) :: r) hf hi (fun q _ => okl_cons.mpr ⟨trivial, (okl_cons.mp (okl_cons.mp q).2).2⟩) (hw x y _) k
theorem aw_divJ {f : Int64 → Int64 → Int64} (hf : G.2.2.2.2.2.1.2.2.2.2.2.lookup pc = some (i, np, tg, lit)) (hi : isSw i = false) (hw : ∀ x y rest, ¬ y = 0 → WU i (ilen i) (.long y :: .long x :: rest) (.long (f x y) :: rest)) (h : sDivJ f np ls st m = some (P, np', ls', st', m')) (hP : P) (k : AW G np' ls' st' m') : AW G pc ls st m := by
  obtain ⟨x, y, r, rfl, rfl, rfl, rfl, rfl, hy⟩ := sDivJ_inv h hP
  exact aw_pure (st' := vJ (f x y) :: r) hf hi (fun q _ => okl_cons.mpr ⟨trivial, (okl_cons.mp (okl_cons.mp q).2).2⟩) (hw x y _ hy) k
-- a local is read
theorem sLd_inv {j c : Nat} (h : sLd j c np ls st m = some (P, np', ls', st', m')) : ∃ v, ls.getD j vU = v ∧ unk v = false ∧ np' = np ∧ ls' = ls ∧ st' = v :: st ∧ m' = m ∧ ((c = 0 ∧ ∃ x, v = vI x) ∨ (c = 1 ∧ ∃ x, v = vJ x) ∨ (c = 2 ∧ ∃ q, v = .inr (.inr q))) := by
  unfold sLd at h
  split at h
  · rename_i x hx
    split at h
    · rename_i hc
      cases h
      exact ⟨_, hx, rfl, rfl, rfl, rfl, rfl, Or.inl ⟨by simpa using hc, _, rfl⟩⟩
    · cases h
  · rename_i x hx
    split at h
    · rename_i hc
      cases h
      exact ⟨_, hx, rfl, rfl, rfl, rfl, rfl, Or.inr (Or.inl ⟨by simpa using hc, _, rfl⟩)⟩
    · cases h
  · rename_i x hx
    split at h
    · rename_i hc
      cases h
      simp only [Bool.and_eq_true, Bool.not_eq_true'] at hc
      exact ⟨_, hx, hc.2, rfl, rfl, rfl, rfl, Or.inr (Or.inr ⟨by simpa using hc.1, _, rfl⟩)⟩
    · cases h
theorem aw_ld {j c : Nat} (hf : G.2.2.2.2.2.1.2.2.2.2.2.lookup pc = some (i, np, tg, lit)) (hi : isSw i = false)
    (hw : ∀ (v : AV), ((c = 0 ∧ ∃ x, v = vI x) ∨ (c = 1 ∧ ∃ x, v = vJ x) ∨ (c = 2 ∧ ∃ q, v = .inr (.inr q))) → ∀ (p : Program) (l : Launch) (e : Env) (R : Room) (s : State) (mi : MethodId) (args : Array Value) (below : List Frame) (meth : Method) (co : Code) (H : Heap) (locs : List Loc) (cells slots : Nat) (Q : State → Prop) (cc : ByteArray) (pc : Nat) (la : Array Slot) (rest : List Value), p.tables.exec = Jvm.exec → co.code = cc → decode cc pc = .ok (i, ilen i) → la[j]? = some (.val (cv G.2.1 v)) → W p l e R s mi args below meth co H locs cells slots Q (F0 mi (pc + ilen i) la (cv G.2.1 v :: rest)) → W p l e R s mi args below meth co H locs cells slots Q (F0 mi pc la rest))
    (h : sLd j c np ls st m = some (P, np', ls', st', m')) (k : AW G np' ls' st' m') : AW G pc ls st m := by
  obtain ⟨v, hv, hu, rfl, rfl, rfl, rfl, hc⟩ := sLd_inv h
  intro hl hol hos p e s mid args below meth c C H locs la hPw hS hL
  obtain ⟨hx, hb, -, -, -, -, -, -, -, -, -, -, -, hok⟩ := id C
  obtain ⟨hd, hn⟩ := fetch_1 hok hf hi
  subst hn
  exact hw v hc _ _ _ _ _ _ _ _ _ _ _ _ _ _ _ _ _ _ _ hx hb hd (lRep_get hL hv hu) (k hl hol (okl_cons.mpr ⟨okl_getD hol hv, hos⟩) p e s mid args below meth c C H locs la hPw hS hL)
-- a local is written
theorem aw_st1 {j : Nat} {v : AV} {r : List AV} (hf : G.2.2.2.2.2.1.2.2.2.2.2.lookup pc = some (i, np, tg, lit)) (hi : isSw i = false) (hj : j < ls.length) (hno : noL ls j = true)
    (hw : ∀ (p : Program) (l : Launch) (e : Env) (R : Room) (s : State) (mi : MethodId) (args : Array Value) (below : List Frame) (meth : Method) (co : Code) (H : Heap) (locs : List Loc) (cells slots : Nat) (Q : State → Prop) (cc : ByteArray) (pc : Nat) (la : Array Slot) (nL : Nat) (rest : List Value) (lv : List (Nat × Value)), p.tables.exec = Jvm.exec → co.code = cc → decode cc pc = .ok (i, ilen i) → lv_has la nL lv → j < nL → (∀ la', lv_has la' nL ((j, cv G.2.1 v) :: lv.filter (fun q => !(q.1 == j) && !(q.1 + 1 == j && q.2.category == 2))) → W p l e R s mi args below meth co H locs cells slots Q (F0 mi (pc + ilen i) la' rest)) → W p l e R s mi args below meth co H locs cells slots Q (F0 mi pc la (cv G.2.1 v :: rest)))
    (k : AW G np (ls.set j v) r m) : AW G pc ls (v :: r) m := by
  intro hl hol hos p e s mid args below meth c C H locs la hPw hS hL
  obtain ⟨hx, hb, -, -, -, -, -, -, -, -, -, -, -, hok⟩ := id C
  obtain ⟨hd, hn⟩ := fetch_1 hok hf hi
  subst hn
  have ho := okl_cons.mp hos
  exact hw _ _ _ _ _ _ _ _ _ _ _ _ _ _ _ _ _ _ _ _ _ hx hb hd (lRep_has hL) hj (fun la' h' => k (by rw [List.length_set]; exact hl) (okl_set hol ho.1) ho.2 p e s mid args below meth c C H locs la' hPw hS (lRep_set hj hno h'))
theorem aw_st2 {j : Nat} {x : Int64} {r : List AV} (hf : G.2.2.2.2.2.1.2.2.2.2.2.lookup pc = some (i, np, tg, lit)) (hi : isSw i = false) (hj : j + 1 < ls.length) (hno : noL ls j = true)
    (hw : ∀ (p : Program) (l : Launch) (e : Env) (R : Room) (s : State) (mi : MethodId) (args : Array Value) (below : List Frame) (meth : Method) (co : Code) (H : Heap) (locs : List Loc) (cells slots : Nat) (Q : State → Prop) (cc : ByteArray) (pc : Nat) (la : Array Slot) (nL : Nat) (rest : List Value) (lv : List (Nat × Value)), p.tables.exec = Jvm.exec → co.code = cc → decode cc pc = .ok (i, ilen i) → lv_has la nL lv → j + 1 < nL → (∀ la', lv_has la' nL ((j, .long x) :: lv.filter (fun q => !(q.1 == j) && (!(q.1 == j + 1) && !(q.1 + 1 == j && q.2.category == 2)))) → W p l e R s mi args below meth co H locs cells slots Q (F0 mi (pc + ilen i) la' rest)) → W p l e R s mi args below meth co H locs cells slots Q (F0 mi pc la (.long x :: rest)))
    (k : AW G np ((ls.set j (vJ x)).set (j + 1) vU) r m) : AW G pc ls (vJ x :: r) m := by
  intro hl hol hos p e s mid args below meth c C H locs la hPw hS hL
  obtain ⟨hx, hb, -, -, -, -, -, -, -, -, -, -, -, hok⟩ := id C
  obtain ⟨hd, hn⟩ := fetch_1 hok hf hi
  subst hn
  have ho := okl_cons.mp hos
  exact hw _ _ _ _ _ _ _ _ _ _ _ _ _ _ _ _ _ _ _ _ _ hx hb hd (lRep_has hL) hj (fun la' h' => k (by rw [List.length_set, List.length_set]; exact hl) (okl_set (okl_set hol trivial) okv_U) ho.2 p e s mid args below meth c C H locs la' hPw hS (lRep_set2 (v := vJ x) hj hno h'))
end
end
section
section
variable {G : GG} {pc np tg : Nat} {lit : Int32} {ls st st' : List AV} {m : Mem} {P : Prop} {np' : Nat} {ls' : List AV} {m' : Mem}
theorem aw_get0 {idx t h k pos : Nat} {v : AV} {r : List AV} (hf : G.2.2.2.2.2.1.2.2.2.2.2.lookup pc = some (.getfield idx, np, tg, lit)) (hft : ftO G.2.2.2.2.2.1.2.2.2.2.1 idx = some (t, k, pos))
    (hv : okr G.2.1 t h → cv G.2.1 v = slotV G.2.1 m h k ((shp t).getD k (0, 0))) (hov : (xN G.2.1 = NC ∨ xN G.2.1 = NTT) → okr G.2.1 t h → okv G.2.1 v) (kk : AW G np ls (v :: r) m) : AW G pc ls (vR t h :: r) m := by
  intro hl hol hos p e s mid args below meth c C H locs la hPw hS hL
  obtain ⟨hx, hb, -, -, hown, hts, -, hK, -, hN, -, -, -, hok⟩ := id C
  obtain ⟨hd, hn⟩ := fetch_1 hok hf rfl
  subst hn
  obtain ⟨Cn, T, N, hc, hlk, hkN, hsl, ht0, ht20, hfk⟩ := ft_ok hft
  have ho := okl_cons.mp hos
  have hxt : isX t = false := isX_lt (by omega)
  obtain ⟨hh, hlay⟩ := okr_cell ho.1 (by omega) hxt
  show W _ _ _ _ _ _ _ _ _ _ _ _ _ _ _ (F0 mid pc la (.ref (aof G.2.1 t h) :: r.map (cv G.2.1)))
  rw [aof_in hxt]
  have he : (wsOf G.2.1 m)[h]? = some (xb G.2.1 + h, .inr (t - 1, fsOf G.2.1 m h t)) := by rw [ws_get _ _ hh, cel_o hlay ht20]
  refine va_get hx hb hts (cls_in hc) hown hK hPw h he hc k hkN (hts _ hlk) (fun _ h9 => h9) (fs_get (by rw [hsl]; exact hkN)) hd ?_
  rw [← hv ho.1]
  exact kk hl hol (okl_cons.mpr ⟨hov hN ho.1, ho.2⟩) p e s mid args below meth c C H locs la hPw hS hL
theorem aw_get {idx : Nat} (hf : G.2.2.2.2.2.1.2.2.2.2.2.lookup pc = some (.getfield idx, np, tg, lit)) (h : sGet G.2.2.2.2.2.1.2.2.2.2.1 idx np ls st m = some (P, np', ls', st', m')) (hP : P) (k : AW G np' ls' st' m') : AW G pc ls st m := by
  unfold sGet at h
  split at h
  · rename_i t h0 r
    split at h
    · rename_i t' kk pos hft
      split at h
      · rename_i htt
        have htt : t = t' := by simpa using htt
        subst htt
        obtain ⟨Cn, T, N, hc, hlk, hkN, hsl, ht0, ht20, hfk⟩ := ft_ok hft
        split at h
        rename_i t2' o hq
        split at h
        · rename_i h00
          have h00 : t2' = 0 := by simpa using h00
          subst h00
          cases h
          exact aw_get0 (v := vI (m h0 kk)) hf hft (fun _ => by rw [hq]; rfl) (fun _ _ => trivial) k
        · rename_i h00
          have h00 : ¬ t2' = 0 := by simpa using h00
          obtain ⟨t2, rfl⟩ : ∃ a, t2' = a + 1 := ⟨t2' - 1, by omega⟩
          split at h
          · rename_i ho
            have ho : o = 9999 := by simpa using ho
            cases h
            refine aw_get0 (v := vR (t2 + 1) (m h0 kk).toNatClampNeg) hf hft (fun _ => ?_) (fun hN _ => ?_) k
            · rw [hq, ho]
              obtain ⟨-, hX2⟩ := clo_v (Or.inl rfl) hq ho hP
              show Value.ref (aof G.2.1 (t2 + 1) _) = _
              rw [aof_in hX2]
              rfl
            · obtain ⟨hlt, hX2⟩ := clo_v hN hq ho hP
              exact Or.inr (Or.inr ⟨hX2, hlt, hP⟩)
          · rename_i ho
            have ho : ¬ o = 9999 := by simpa using ho
            cases h
            have key : (xN G.2.1 = NC ∨ xN G.2.1 = NTT) → okr G.2.1 t h0 → h0 + o < xN G.2.1 ∧ layT (h0 + o) = t2 + 1 ∧ isX (t2 + 1) = false := by
              intro hN hr
              obtain ⟨hh, hlay⟩ := okr_cell hr (by omega) (isX_lt (by omega))
              obtain ⟨g1, g2⟩ := clo_f hN hh (by rw [hlay]; exact ht20) (by rw [hlay]; exact hq) ho
              refine ⟨g1, g2, ?_⟩
              rw [← g2]
              exact clo_X hN g1
            intro hl hol hos p e s mid args below meth c C H locs la hPw hS hL
            have hN : xN G.2.1 = NC ∨ xN G.2.1 = NTT := by
              obtain ⟨-, -, -, -, -, -, -, -, -, hN, -⟩ := C
              exact hN
            obtain ⟨g1, g2, g3⟩ := key hN (okl_cons.mp hos).1
            refine aw_get0 hf hft (v := vR (t2 + 1) (h0 + o)) (fun _ => ?_) (fun _ _ => ?_) k hl hol hos p e s mid args below meth c C H locs la hPw hS hL
            · rw [hq]
              show Value.ref (aof G.2.1 (t2 + 1) _) = _
              rw [aof_in g3]
              unfold slotV
              rw [if_neg (Nat.succ_ne_zero _), if_neg ho]
            · exact Or.inr (Or.inr ⟨g3, g1, g2⟩)
      · cases h
    · cases h
  · cases h
theorem aw_put0 {idx t h k pos : Nat} {v : AV} {x : Int32} {ty : FieldType} {r : List AV} (hf : G.2.2.2.2.2.1.2.2.2.2.2.lookup pc = some (.putfield idx, np, tg, lit)) (hft : ftO G.2.2.2.2.2.1.2.2.2.2.1 idx = some (t, k, pos))
    (hty : ∀ (C : String) (T : u_T) (N : Nat), vwCl[t - 1]? = some (C, T, N) → fokS T k ((shp t).getD k (0, 0)) = true → (T k).2.2.2 = false ∧ parseFieldDescriptor (T k).2.2.1 = some ty) (hn : narrow ty (cv G.2.1 v) = cv G.2.1 v) (hfit : fits ty (cv G.2.1 v) = true)
    (hv : slotV G.2.1 (mUp m h k x) h k ((shp t).getD k (0, 0)) = cv G.2.1 v) (kk : AW G np ls r (mUp m h k x)) : AW G pc ls (v :: vR t h :: r) m := by
  intro hl hol hos p e s mid args below meth c C H locs la hPw hS hL
  obtain ⟨hx, hb, -, -, hown, hts, -, hK, -, hN, -, -, -, hok⟩ := id C
  obtain ⟨hd, hn1⟩ := fetch_1 hok hf rfl
  subst hn1
  obtain ⟨Cn, T, N, hc, hlk, hkN, hsl, ht0, ht20, hfk⟩ := ft_ok hft
  have ho := okl_cons.mp (okl_cons.mp hos).2
  have hxt : isX t = false := isX_lt (by omega)
  obtain ⟨hh, hlay⟩ := okr_cell ho.1 (by omega) hxt
  show W _ _ _ _ _ _ _ _ _ _ _ _ _ _ _ (F0 mid pc la (cv G.2.1 v :: .ref (aof G.2.1 t h) :: r.map (cv G.2.1)))
  rw [aof_in hxt]
  have he : (wsOf G.2.1 m)[h]? = some (xb G.2.1 + h, .inr (t - 1, fsOf G.2.1 m h t)) := by rw [ws_get _ _ hh, cel_o hlay ht20]
  obtain ⟨hfin, hpd⟩ := hty Cn T N hc hfk
  obtain ⟨ty0, hty0, hnm⟩ := cls_ty hc
  have hset : (wsOf G.2.1 m).set h (xb G.2.1 + h, .inr (t - 1, (fsOf G.2.1 m h t).set k (cv G.2.1 v))) = wsOf G.2.1 (mUp m h k x) := by
    have e1 : wsOf G.2.1 (mUp m h k x) = (wsOf G.2.1 m).set h (xb G.2.1 + h, celE G.2.1 (mUp m h k x) h) := ws_row _ _ _ _
    rw [e1, cel_o hlay ht20, fs_up, hv]
  refine va_put hx hb hts (cls_in hc) ty0 hty0 hnm hown hK hPw (ws_D _ _) hS h he hc k hkN (hts _ hlk) (fun _ h9 => h9) hfin hpd hn hfit (by rw [fs_len, hsl]; exact hkN) hd (fun H1 locs1 hP1 hD1 hS1 => ?_)
  rw [hset] at hP1
  exact kk hl hol ho.2 p e s mid args below meth c C H1 locs1 la hP1 hS1 hL
theorem aw_put {idx : Nat} (hf : G.2.2.2.2.2.1.2.2.2.2.2.lookup pc = some (.putfield idx, np, tg, lit)) (h : sPut G.2.2.2.2.2.1.2.2.2.2.1 idx np ls st m = some (P, np', ls', st', m')) (hP : P) (k : AW G np' ls' st' m') : AW G pc ls st m := by
  unfold sPut at h
  split at h
  · rename_i x t h0 r
    split at h
    · rename_i t' kk pos hft
      split at h
      · rename_i htt
        have htt : t = t' := by simpa using htt
        subst htt
        obtain ⟨Cn, T, N, hc, hlk, hkN, hsl, ht0, ht20, hfk⟩ := ft_ok hft
        have hgd : (shp t).getD kk (1, 0) = (shp t).getD kk (0, 0) := by
          rw [List.getD_eq_getElem?_getD, List.getD_eq_getElem?_getD, List.getElem?_eq_getElem (by omega)]
          rfl
        rw [hgd] at h
        split at h
        · rename_i hq
          cases h
          refine aw_put0 (v := vI x) (ty := .int) hf hft (fun C1 T1 N1 hc1 hf1 => ?_) rfl rfl ?_ k
          · rw [hq] at hf1
            simp only [fokS, Bool.and_eq_true, Bool.not_eq_true', decide_eq_true_eq] at hf1
            exact hf1
          · rw [hq]
            show Value.int (mUp m h0 kk x h0 kk) = _
            rw [mUp_s]
            rfl
        · rename_i hq
          cases h
          have hx01 : narrow .boolean (.int x) = .int x ∧ fits .boolean (.int x) = true := by
            rcases hP with rfl | rfl <;> exact ⟨rfl, rfl⟩
          refine aw_put0 (v := vI x) (ty := .boolean) hf hft (fun C1 T1 N1 hc1 hf1 => ?_) hx01.1 hx01.2 ?_ k
          · rw [hq] at hf1
            simp only [fokS, Bool.and_eq_true, Bool.not_eq_true', decide_eq_true_eq] at hf1
            exact hf1
          · rw [hq]
            show Value.int (mUp m h0 kk x h0 kk) = _
            rw [mUp_s]
            rfl
        · cases h
      · cases h
    · cases h
  · rename_i t2 h2 t h0 r
    split at h
    · rename_i t' kk pos hft
      split at h
      · rename_i htt
        simp only [Bool.and_eq_true, beq_iff_eq, Bool.not_eq_true', beq_eq_false_iff_ne] at htt
        obtain ⟨rfl, g1, g2, g3⟩ := htt
        obtain ⟨Cn, T, N, hc, hlk, hkN, hsl, ht0, ht20, hfk⟩ := ft_ok hft
        cases h
        obtain ⟨a, rfl⟩ : ∃ a, t2 = a + 1 := ⟨t2 - 1, by omega⟩
        have hq : (shp t).getD kk (0, 0) = (a + 1, 9999) := Prod.ext g1.symm g2
        intro hl hol hos p e s mid args below meth c C H locs la hPw hS hL
        have hN : xN G.2.1 = NC ∨ xN G.2.1 = NTT := by
          obtain ⟨-, -, -, -, -, -, -, -, -, hN, -⟩ := C
          exact hN
        have hXa : isX (a + 1) = false := by
          have h1 := shp_V
          have hm : (a + 1, 9999) ∈ shp t := by
            rw [List.getD_eq_getElem?_getD, List.getElem?_eq_getElem (by omega)] at hq
            have hq : (shp t)[kk] = (a + 1, 9999) := hq
            rw [← hq]
            exact List.getElem_mem _
          have hs : shp t ∈ SHP := by
            unfold shp at hm ⊢
            rw [List.getD_eq_getElem?_getD] at hm ⊢
            cases hl : SHP[t]? with
            | none => rw [hl] at hm; simp at hm
            | some q => exact List.mem_of_getElem? hl
          have h2 := List.all_eq_true.mp (List.all_eq_true.mp shp_V _ hs) _ hm
          simp only [Bool.or_eq_true, Bool.not_eq_true', beq_iff_eq] at h2
          rcases h2 with h2 | h2 | h2 | h2
          · cases h2
          · exact absurd h2 (Nat.succ_ne_zero _)
          · rw [h2]; rfl
          · rw [h2]; rfl
        obtain ⟨hh2, hlay2⟩ := okr_cell (okl_cons.mp hos).1 (Nat.succ_ne_zero _) hXa
        have hlt : h2 < 2 ^ 31 := by
          have : h2 < NTT := layT_lt (by rw [hlay2]; exact Nat.succ_ne_zero _)
          exact Nat.lt_trans this (by decide)
        refine aw_put0 (v := vR (a + 1) h2) (x := Int32.ofNat h2) (ty := .object (Rn a)) hf hft (fun C1 T1 N1 hc1 hf1 => ?_) rfl rfl ?_ k hl hol hos p e s mid args below meth c C H locs la hPw hS hL
        · rw [hq] at hf1
          simp only [fokS, beq_self_eq_true, if_true, Bool.and_eq_true, Bool.not_eq_true', decide_eq_true_eq] at hf1
          exact hf1
        · rw [hq]
          unfold slotV
          rw [if_neg (Nat.succ_ne_zero _), if_pos rfl, mUp_s, show (Int32.ofNat h2).toNatClampNeg = h2 from nI_clamp hlt]
          show _ = Value.ref (aof G.2.1 (a + 1) h2)
          rw [aof_in hXa]
      · cases h
    · cases h
  · cases h
end
end
section
section
variable {G : GG} {pc np tg : Nat} {lit : Int32} {ls st st' : List AV} {m : Mem} {P : Prop} {np' : Nat} {ls' : List AV} {m' : Mem}
theorem sAld_inv {lo hi : Nat} (h : sAld lo hi np ls st m = some (P, np', ls', st', m')) (hP : P) : ∃ j t h0 r, st = vI j :: vR t h0 :: r ∧ lo ≤ t ∧ t < hi ∧ np' = np ∧ ls' = ls ∧ st' = vI (m h0 j.toNatClampNeg) :: r ∧ m' = m ∧ vp_in j (t - lo) := by
  unfold sAld at h
  split at h
  · split at h
    · rename_i hc
      simp only [Bool.and_eq_true, decide_eq_true_eq] at hc
      cases h
      exact ⟨_, _, _, _, rfl, hc.1, hc.2, rfl, rfl, rfl, rfl, hP⟩
    · cases h
  · cases h
theorem sAst_inv {lo hi : Nat} (h : sAst lo hi np ls st m = some (P, np', ls', st', m')) (hP : P) : ∃ x j t h0 r, st = vI x :: vI j :: vR t h0 :: r ∧ lo ≤ t ∧ t < hi ∧ np' = np ∧ ls' = ls ∧ st' = r ∧ m' = mUp m h0 j.toNatClampNeg x ∧ vp_in j (t - lo) ∧ (lo = 4000 → x = 0 ∨ x = 1) := by
  unfold sAst at h
  split at h
  · split at h
    · rename_i hc
      simp only [Bool.and_eq_true, decide_eq_true_eq] at hc
      cases h
      exact ⟨_, _, _, _, _, rfl, hc.1, hc.2, rfl, rfl, rfl, rfl, hP.1, hP.2⟩
    · cases h
  · cases h
/-- what is needed of a cell on the stack -/
theorem aw_cell {t h : Nat} {X : XT} (ho : okr X t h) (h0 : ¬ t = 0) (hx : isX t = false) : h < xN X ∧ layT h = t ∧ aof X t h = xb X + h := ⟨(okr_cell ho h0 hx).1, (okr_cell ho h0 hx).2, aof_in hx⟩
theorem aw_ald {i : Instr} {lo hi a : Nat} {ty : FieldType} (hf : G.2.2.2.2.2.1.2.2.2.2.2.lookup pc = some (i, np, tg, lit)) (hi' : isSw i = false) (hlo : 1000 ≤ lo)
    (hcel : ∀ (X : XT) (m : Mem) (h t : Nat), layT h = t → lo ≤ t → t < hi → celE X m h = .inl (xc X a, t - lo, .inl (m h))) (ht : ∀ X : XT, (tysOf X)[a]? = some (xc X a, ty))
    (hw : ∀ (p : Program) (l : Launch) (e : Env) (R : Room) (s : State) (mi : MethodId) (args : Array Value) (below : List Frame) (meth : Method) (co : Code) (H : Heap) (locs : List Loc) (cells slots : Nat) (Q : State → Prop) (cc : ByteArray) (pc : Nat) (la : Array Slot) (rest : List Value) (D : va_G) (tys : List (ClassId × FieldType)) (ws : va_W) (q0 t0 ad n : Nat) (cA : ClassId) (f : Nat → Int32) (j : Int32), p.tables.exec = Jvm.exec → co.code = cc → va_K D vwCl tys s → va_P D vwCl ws H → ws[q0]? = some (ad, .inl (cA, n, .inl f)) → tys[t0]? = some (cA, ty) → vp_in j n → decode cc pc = .ok (i, ilen i) → W p l e R s mi args below meth co H locs cells slots Q (F0 mi (pc + ilen i) la (.int (f j.toNatClampNeg) :: rest)) → W p l e R s mi args below meth co H locs cells slots Q (F0 mi pc la (.int j :: .ref ad :: rest)))
    (h : sAld lo hi np ls st m = some (P, np', ls', st', m')) (hP : P) (k : AW G np' ls' st' m') : AW G pc ls st m := by
  obtain ⟨j, t, h0, r, rfl, hl1, hl2, rfl, rfl, rfl, rfl, hin⟩ := sAld_inv h hP
  intro hl hol hos p e s mid args below meth c C H locs la hPw hS hL
  obtain ⟨hx, hb, -, -, hown, hts, -, hK, -, hN, -, -, -, hok⟩ := id C
  obtain ⟨hd, hn1⟩ := fetch_1 hok hf hi'
  subst hn1
  have ho := okl_cons.mp (okl_cons.mp hos).2
  obtain ⟨hh, hlay, hao⟩ := aw_cell ho.1 (by omega) (isX_gt (by omega))
  show W _ _ _ _ _ _ _ _ _ _ _ _ _ _ _ (F0 mid pc la (.int j :: .ref (aof G.2.1 t h0) :: r.map (cv G.2.1)))
  rw [hao]
  have he : (wsOf G.2.1 m')[h0]? = some (xb G.2.1 + h0, .inl (xc G.2.1 a, t - lo, .inl (m' h0))) := by rw [ws_get _ _ hh, hcel _ _ _ _ hlay hl1 hl2]
  exact hw _ _ _ _ _ _ _ _ _ _ _ _ _ _ _ _ _ _ _ _ _ _ _ _ _ _ _ _ _ hx hb hK hPw he (ht _) hin hd (k hl hol (okl_cons.mpr ⟨trivial, ho.2⟩) p e s mid args below meth c C H locs la hPw hS hL)
theorem aw_ast {i : Instr} {lo hi a : Nat} {ty : FieldType} (hf : G.2.2.2.2.2.1.2.2.2.2.2.lookup pc = some (i, np, tg, lit)) (hi' : isSw i = false) (hlo : 1000 ≤ lo)
    (hcel : ∀ (X : XT) (m : Mem) (h t : Nat), layT h = t → lo ≤ t → t < hi → celE X m h = .inl (xc X a, t - lo, .inl (m h))) (ht : ∀ X : XT, (tysOf X)[a]? = some (xc X a, ty))
    (hw : ∀ (p : Program) (l : Launch) (e : Env) (R : Room) (s : State) (mi : MethodId) (args : Array Value) (below : List Frame) (meth : Method) (co : Code) (H H0 : Heap) (locs : List Loc) (cells slots : Nat) (Q : State → Prop) (cc : ByteArray) (pc : Nat) (la : Array Slot) (rest : List Value) (D : va_G) (A : Nat → Prop) (tys : List (ClassId × FieldType)) (ws : va_W) (q0 t0 ad n : Nat) (cA : ClassId) (f : Nat → Int32) (j x : Int32), (lo = 4000 → x = 0 ∨ x = 1) → p.tables.exec = Jvm.exec → co.code = cc → va_K D vwCl tys s → va_P D vwCl ws H → va_D A ws → va_S A H0 H locs → ws[q0]? = some (ad, .inl (cA, n, .inl f)) → tys[t0]? = some (cA, ty) → vp_in j n → decode cc pc = .ok (i, ilen i) →
      (∀ (H1 : Heap) (locs1 : List Loc), va_P D vwCl (ws.set q0 (ad, .inl (cA, n, .inl (upd f j.toNatClampNeg x)))) H1 → va_S A H0 H1 locs1 → W p l e R s mi args below meth co H1 locs1 cells slots Q (F0 mi (pc + ilen i) la rest)) → W p l e R s mi args below meth co H locs cells slots Q (F0 mi pc la (.int x :: .int j :: .ref ad :: rest)))
    (h : sAst lo hi np ls st m = some (P, np', ls', st', m')) (hP : P) (k : AW G np' ls' st' m') : AW G pc ls st m := by
  obtain ⟨x, j, t, h0, r, rfl, hl1, hl2, rfl, rfl, e5, rfl, hin, h01⟩ := sAst_inv h hP
  subst e5
  intro hl hol hos p e s mid args below meth c C H locs la hPw hS hL
  obtain ⟨hx, hb, -, -, hown, hts, -, hK, -, hN, -, -, -, hok⟩ := id C
  obtain ⟨hd, hn1⟩ := fetch_1 hok hf hi'
  subst hn1
  have ho := okl_cons.mp (okl_cons.mp (okl_cons.mp hos).2).2
  obtain ⟨hh, hlay, hao⟩ := aw_cell ho.1 (by omega) (isX_gt (by omega))
  show W _ _ _ _ _ _ _ _ _ _ _ _ _ _ _ (F0 mid pc la (.int x :: .int j :: .ref (aof G.2.1 t h0) :: st'.map (cv G.2.1)))
  rw [hao]
  have he : (wsOf G.2.1 m)[h0]? = some (xb G.2.1 + h0, .inl (xc G.2.1 a, t - lo, .inl (m h0))) := by rw [ws_get _ _ hh, hcel _ _ _ _ hlay hl1 hl2]
  have hset : (wsOf G.2.1 m).set h0 (xb G.2.1 + h0, .inl (xc G.2.1 a, t - lo, .inl (upd (m h0) j.toNatClampNeg x))) = wsOf G.2.1 (mUp m h0 j.toNatClampNeg x) := by
    have e1 : wsOf G.2.1 (mUp m h0 j.toNatClampNeg x) = (wsOf G.2.1 m).set h0 (xb G.2.1 + h0, celE G.2.1 (mUp m h0 j.toNatClampNeg x) h0) := ws_row _ _ _ _
    rw [e1, hcel _ _ _ _ hlay hl1 hl2, show mUp m h0 j.toNatClampNeg x h0 = upd (m h0) j.toNatClampNeg x from mSr_s _ _ _]
  refine hw _ _ _ _ _ _ _ _ _ _ _ _ _ _ _ _ _ _ _ _ _ _ _ _ _ _ _ _ _ _ _ _ h01 hx hb hK hPw (ws_D _ _) hS he (ht _) hin hd (fun H1 locs1 hP1 hS1 => ?_)
  rw [hset] at hP1
  exact k hl hol ho.2 p e s mid args below meth c C H1 locs1 la hP1 hS1 hL
theorem vp_nar_b {x : Int32} (h : x = 0 ∨ x = 1) : vp_nar .boolean x = x := by
  rcases h with rfl | rfl <;> rfl
theorem aw_aal (hf : G.2.2.2.2.2.1.2.2.2.2.2.lookup pc = some (.aaload, np, tg, lit)) (h : sAal np ls st m = some (P, np', ls', st', m')) (hP : P) (k : AW G np' ls' st' m') : AW G pc ls st m := by
  unfold sAal at h
  split at h
  · rename_i j t h0 r
    split at h
    · rename_i hc
      simp only [Bool.and_eq_true, decide_eq_true_eq] at hc
      obtain ⟨hc1, hc2⟩ := hc
      split at h
      rename_i ra rb rc re hq
      have qa : ra = rlen t := by unfold rlen; rw [hq]
      have qb : rb = roff t := by unfold roff; rw [hq]
      have qc : rc = rstr t := by unfold rstr; rw [hq]
      have qe : re = rty t := by unfold rty; rw [hq]
      subst qa qb qc qe
      cases h
      intro hl hol hos p e s mid args below meth c C H locs la hPw hS hL
      obtain ⟨hx, hb, -, -, hown, hts, -, hK, -, hN, -, -, -, hok⟩ := id C
      obtain ⟨hd, hn1⟩ := fetch_1 hok hf rfl
      subst hn1
      have ho := okl_cons.mp (okl_cons.mp hos).2
      obtain ⟨hh, hlay, hao⟩ := aw_cell ho.1 (by omega) (isX_lt (by omega))
      show W _ _ _ _ _ _ _ _ _ _ _ _ _ _ _ (F0 mid pc la (.int j :: .ref (aof G.2.1 t h0) :: r.map (cv G.2.1)))
      rw [hao]
      have he : (wsOf G.2.1 m)[h0]? = some (xb G.2.1 + h0, .inl (xc G.2.1 t, rlen t, .inr (.inr (.inr (.inr (fun i => some (xb G.2.1 + (h0 + roff t + rstr t * i)))))))) := by rw [ws_get _ _ hh, cel_r hlay hc1 hc2]
      have hlt : j.toNatClampNeg < rlen t := Nat.not_le.mp fun q => hP (Or.inr q)
      obtain ⟨g1, g2⟩ := clo_a (i := j.toNatClampNeg) hN hh (by rw [hlay]; exact hc2) (by rw [hlay]; exact hc1) (by rw [hlay]; exact hlt)
      rw [hlay] at g1 g2
      have hXr : isX (rty t) = false := by rw [← g2]; exact clo_X hN g1
      have ht : ∃ (t0 : Nat) (ty : FieldType), (tysOf G.2.1)[t0]? = some (xc G.2.1 t, ty) ∧ ty.isReference = true := by
        have h5 : t = 20 ∨ t = 21 ∨ t = 22 ∨ t = 23 ∨ t = 24 := by omega
        rcases h5 with rfl | rfl | rfl | rfl | rfl
        · exact ⟨3, _, rfl, rfl⟩
        · exact ⟨4, _, rfl, rfl⟩
        · exact ⟨5, _, rfl, rfl⟩
        · exact ⟨6, _, rfl, rfl⟩
        · exact ⟨7, _, rfl, rfl⟩
      obtain ⟨t0, ty, ht0, hrk⟩ := ht
      have kk := k hl hol (okl_cons.mpr ⟨Or.inr (Or.inr ⟨hXr, g1, g2⟩), ho.2⟩) p e s mid args below meth c C H locs la hPw hS hL
      have e9 : cv G.2.1 (vR (rty t) (h0 + roff t + rstr t * j.toNatClampNeg)) = va_rf (some (xb G.2.1 + (h0 + roff t + rstr t * j.toNatClampNeg))) := by
        show Value.ref (aof _ _ _) = _
        rw [aof_in hXr]
        rfl
      have kk : W p G.1 e G.2.2.1 s mid args below meth c H locs G.2.2.2.1 G.2.2.2.2.1 (G.2.2.2.2.2.2 below args s) (F0 mid (pc + 1) la (cv G.2.1 (vR (rty t) (h0 + roff t + rstr t * j.toNatClampNeg)) :: r.map (cv G.2.1))) := kk
      rw [e9] at kk
      exact W.aald (v := va_rf (some (xb G.2.1 + (h0 + roff t + rstr t * j.toNatClampNeg)))) (ty := ty) hx hb (hPw h0 _ he) ((hK.2 t0 _ ht0).1 (rlen t) (fun i => va_rf (some (xb G.2.1 + (h0 + roff t + rstr t * i))))) hrk (fun q => by cases q) (by show ¬ (j < 0 ∨ (arrV _ _ _).slots.size ≤ _); rw [arrV_size]; exact hP) (by show (arrV _ _ _).slots[_]? = _; rw [arrV_read _ _ hlt]) rfl rfl hd kk
    · cases h
  · cases h
end
end
section
section
variable {G : GG} {pc np tg : Nat} {lit : Int32} {ls st st' : List AV} {m : Mem} {P : Prop} {np' : Nat} {ls' : List AV} {m' : Mem}
theorem aw_const {i : Instr} (hf : G.2.2.2.2.2.1.2.2.2.2.2.lookup pc = some (i, np, tg, lit)) (hi : isSw i = false) (hw : litE G.2.2.2.2.2.1.2.2.2.2.1 i pc tg lit = true → ∀ (p : Program) (l : Launch) (e : Env) (R : Room) (s : State) (mi : MethodId) (args : Array Value) (below : List Frame) (meth : Method) (co : Code) (H : Heap) (locs : List Loc) (cells slots : Nat) (Q : State → Prop) (cc : ByteArray) (la : Array Slot) (rest : List Value), p.tables.exec = Jvm.exec → co.code = cc → s.vm.findClass (Rn G.2.2.2.2.2.1.2.2.2.2.1) = some mi.cls → (∀ w ∈ GT, w.before args s = true) → decode cc pc = .ok (i, ilen i) → W p l e R s mi args below meth co H locs cells slots Q (F0 mi (pc + ilen i) la (.int lit :: rest)) → W p l e R s mi args below meth co H locs cells slots Q (F0 mi pc la rest))
    (k : AW G np ls (vI lit :: st) m) : AW G pc ls st m := by
  intro hl hol hos p e s mid args below meth c C H locs la hPw hS hL
  obtain ⟨hx, hb, -, -, hown, hts, -, -, -, -, -, -, -, hok⟩ := id C
  obtain ⟨hd, hn⟩ := fetch_1 hok hf hi
  subst hn
  exact hw (fetch_ok hok hf).2.2 _ _ _ _ _ _ _ _ _ _ _ _ _ _ _ _ _ _ hx hb hown hts hd (k hl hol (okl_cons.mpr ⟨trivial, hos⟩) p e s mid args below meth c C H locs la hPw hS hL)
theorem sSt_inv {j c : Nat} (h : sSt j c np ls st m = some (P, np', ls', st', m')) : np' = np ∧ m' = m ∧ noL ls j = true ∧ ((c = 0 ∧ j < ls.length ∧ ∃ x r, st = vI x :: r ∧ st' = r ∧ ls' = ls.set j (vI x)) ∨ (c = 1 ∧ j + 1 < ls.length ∧ ∃ x r, st = vJ x :: r ∧ st' = r ∧ ls' = (ls.set j (vJ x)).set (j + 1) vU) ∨ (c = 2 ∧ j < ls.length ∧ ∃ t h0 r, st = vR t h0 :: r ∧ st' = r ∧ ls' = ls.set j (vR t h0))) := by
  unfold sSt at h
  split at h
  · split at h
    · rename_i hc
      simp only [Bool.and_eq_true, decide_eq_true_eq, beq_iff_eq] at hc
      cases h
      exact ⟨rfl, rfl, hc.2.2, Or.inl ⟨hc.1, hc.2.1, _, _, rfl, rfl, rfl⟩⟩
    · cases h
  · split at h
    · rename_i hc
      simp only [Bool.and_eq_true, decide_eq_true_eq, beq_iff_eq] at hc
      cases h
      exact ⟨rfl, rfl, hc.2.2, Or.inr (Or.inl ⟨hc.1, hc.2.1, _, _, rfl, rfl, rfl⟩)⟩
    · cases h
  · split at h
    · rename_i hc
      simp only [Bool.and_eq_true, decide_eq_true_eq, beq_iff_eq] at hc
      cases h
      exact ⟨rfl, rfl, hc.2.2, Or.inr (Or.inr ⟨hc.1, hc.2.1, _, _, _, rfl, rfl, rfl⟩)⟩
    · cases h
  · cases h
theorem aw_inc {j : Nat} {n : Int} (hf : G.2.2.2.2.2.1.2.2.2.2.2.lookup pc = some (.iinc j n, np, tg, lit)) (h : sInc j lit np ls st m = some (P, np', ls', st', m')) (k : AW G np' ls' st' m') : AW G pc ls st m := by
  unfold sInc at h
  split at h
  · rename_i x hx0
    split at h
    · rename_i hno
      cases h
      intro hl hol hos p e s mid args below meth c C H locs la hPw hS hL
      obtain ⟨hx, hb, -, -, hown, hts, -, -, -, -, -, -, -, hok⟩ := id C
      obtain ⟨hd, hn⟩ := fetch_1 hok hf rfl
      subst hn
      have hlit : Int32.ofInt n = lit := by
        have := (fetch_ok hok hf).2.2
        simpa [litE] using this
      have hj : j < ls.length := by
        rcases Nat.lt_or_ge j ls.length with q | q
        · exact q
        · rw [List.getD_eq_getElem?_getD, List.getElem?_eq_none q] at hx0
          cases hx0
      have hm0 : (j, Value.int x) ∈ asc G.2.1 ls := asc_mem.mpr ⟨vI x, by
        rw [List.getD_eq_getElem?_getD] at hx0
        cases hl0 : ls[j]? with
        | none => rw [hl0] at hx0; cases hx0
        | some w => rw [hl0] at hx0; have hx0 : w = vI x := hx0; rw [hx0], rfl, rfl⟩
      obtain ⟨kk, hkk⟩ := List.getElem?_of_mem hm0
      exact lv_iinc (v := x + lit) hx hb hd (lRep_has hL) hkk (by rw [hlit]) hj rfl (fun la' h' => k (by rw [List.length_set]; exact hl) (okl_set hol trivial) hos p e s mid args below meth c C H locs la' hPw hS (lRep_set (v := vI (x + lit)) hj hno h'))
    · cases h
  · cases h
set_option maxHeartbeats 4000000 in
theorem AW.step {q : Instr × Nat × Nat × Int32} (hf : G.2.2.2.2.2.1.2.2.2.2.2.lookup pc = some q) (h : astep G.2.2.2.2.2.1.2.2.2.2.1 q ls st m = some (P, np', ls', st', m')) (hP : P) (k : AW G np' ls' st' m') : AW G pc ls st m := by
  obtain ⟨i, np, tg, lit⟩ := q
  cases i
  case iconst n =>
    cases h
    exact aw_const hf rfl (fun hl _ _ _ _ _ _ _ _ _ _ _ _ _ _ _ _ _ _ hx hb _ _ hd kk => lv_iconst hx hb hd (by simpa [litE] using hl) kk) k
  case bipush n =>
    cases h
    exact aw_const hf rfl (fun hl _ _ _ _ _ _ _ _ _ _ _ _ _ _ _ _ _ _ hx hb _ _ hd kk => lv_bipush hx hb hd (by simpa [litE] using hl) kk) k
  case sipush n =>
    cases h
    exact aw_const hf rfl (fun hl _ _ _ _ _ _ _ _ _ _ _ _ _ _ _ _ _ _ hx hb _ _ hd kk => lv_sipush hx hb hd (by simpa [litE] using hl) kk) k
  case ldc x =>
    simp only [astep] at h
    split at h
    · rename_i h9
      have h9 : tg = 999 := by simpa using h9
      cases h
      refine aw_const hf rfl (fun hl _ _ _ _ _ _ _ _ _ _ _ _ _ _ _ _ _ _ hx hb ho ht hd kk => lv_ldc hx hb ho (ht _ (ct_ok ?_)) hd kk) k
      simp only [litE, h9] at hl
      rw [Bool.or_eq_true] at hl
      rcases hl with hl | hl
      · simpa using hl
      · exfalso
        have : SRF.any (fun q => q.2.2.2 == 999) = false := by decide +kernel
        have h2 : SRF.any (fun q => q.2.2.2 == 999) = true := by
          obtain ⟨y, hy, hy2⟩ := List.any_eq_true.mp hl
          simp only [Bool.and_eq_true] at hy2
          exact List.any_eq_true.mpr ⟨y, hy, hy2.2.2⟩
        rw [this] at h2
        cases h2
    · cases h
  case ldc_w x =>
    simp only [astep] at h
    split at h
    · rename_i h9
      have h9 : tg = 999 := by simpa using h9
      cases h
      refine aw_const hf rfl (fun hl _ _ _ _ _ _ _ _ _ _ _ _ _ _ _ _ _ _ hx hb ho ht hd kk => lv_ldcw hx hb ho (ht _ (ct_ok ?_)) hd kk) k
      simp only [litE, h9] at hl
      rw [Bool.or_eq_true] at hl
      rcases hl with hl | hl
      · simpa using hl
      · exfalso
        have : SRF.any (fun q => q.2.2.2 == 999) = false := by decide +kernel
        have h2 : SRF.any (fun q => q.2.2.2 == 999) = true := by
          obtain ⟨y, hy, hy2⟩ := List.any_eq_true.mp hl
          simp only [Bool.and_eq_true] at hy2
          exact List.any_eq_true.mpr ⟨y, hy, hy2.2.2⟩
        rw [this] at h2
        cases h2
    · cases h
  case lconst n =>
    cases h
    exact aw_pure (st' := vJ (Int64.ofNat n.val) :: st) hf rfl (fun q _ => okl_cons.mpr ⟨trivial, q⟩) (fun _ _ _ _ _ _ _ _ _ _ _ _ _ _ _ _ _ _ hx hb hd kk => lv_lconst hx hb hd rfl kk) k
  case ldc2_w x =>
    simp only [astep] at h
    split at h
    · rename_i e9 he9
      cases h
      intro hl hol hos p e s mid args below meth c C H locs la hPw hS hL
      obtain ⟨hx, hb, -, -, hown, hts, -, -, -, -, -, -, -, hok⟩ := id C
      obtain ⟨hd, hn⟩ := fetch_1 hok hf rfl
      subst hn
      exact lv_ldc2 hx hb hown (hts _ (lt_ok he9)) hd (k hl hol (okl_cons.mpr ⟨trivial, hos⟩) p e s mid args below meth c C H locs la hPw hS hL)
    · cases h
  case iload j =>
    refine aw_ld hf rfl (fun v hv _ _ _ _ _ _ _ _ _ _ _ _ _ _ _ _ _ _ _ hx hb hd hg kk => ?_) h k
    rcases hv with ⟨-, x, rfl⟩ | ⟨hv, -⟩ | ⟨hv, -⟩
    · exact lv_iload hx hb hd hg kk
    · cases hv
    · cases hv
  case iload_n j =>
    refine aw_ld hf rfl (fun v hv _ _ _ _ _ _ _ _ _ _ _ _ _ _ _ _ _ _ _ hx hb hd hg kk => ?_) h k
    rcases hv with ⟨-, x, rfl⟩ | ⟨hv, -⟩ | ⟨hv, -⟩
    · exact lv_iload_n hx hb hd rfl hg kk
    · cases hv
    · cases hv
  case lload j =>
    refine aw_ld hf rfl (fun v hv _ _ _ _ _ _ _ _ _ _ _ _ _ _ _ _ _ _ _ hx hb hd hg kk => ?_) h k
    rcases hv with ⟨hv, -⟩ | ⟨-, x, rfl⟩ | ⟨hv, -⟩
    · cases hv
    · exact lv_lload hx hb hd hg kk
    · cases hv
  case lload_n j =>
    refine aw_ld hf rfl (fun v hv _ _ _ _ _ _ _ _ _ _ _ _ _ _ _ _ _ _ _ hx hb hd hg kk => ?_) h k
    rcases hv with ⟨hv, -⟩ | ⟨-, x, rfl⟩ | ⟨hv, -⟩
    · cases hv
    · exact lv_lload_n hx hb hd rfl hg kk
    · cases hv
  case aload j =>
    refine aw_ld hf rfl (fun v hv _ _ _ _ _ _ _ _ _ _ _ _ _ _ _ _ _ _ _ hx hb hd hg kk => ?_) h k
    rcases hv with ⟨hv, -⟩ | ⟨hv, -⟩ | ⟨-, x, rfl⟩
    · cases hv
    · cases hv
    · exact lv_aload hx hb hd hg kk
  case aload_n j =>
    refine aw_ld hf rfl (fun v hv _ _ _ _ _ _ _ _ _ _ _ _ _ _ _ _ _ _ _ hx hb hd hg kk => ?_) h k
    rcases hv with ⟨hv, -⟩ | ⟨hv, -⟩ | ⟨-, x, rfl⟩
    · cases hv
    · cases hv
    · exact lv_aload_n hx hb hd rfl hg kk
  case istore j =>
    obtain ⟨rfl, rfl, hno, ⟨-, hj, x, r, rfl, rfl, rfl⟩ | ⟨hc, -⟩ | ⟨hc, -⟩⟩ := sSt_inv h
    · exact aw_st1 (v := vI x) hf rfl hj hno (fun _ _ _ _ _ _ _ _ _ _ _ _ _ _ _ _ _ _ _ _ _ hx hb hd hh hn kk => lv_istore hx hb hd hh hn rfl kk) k
    · cases hc
    · cases hc
  case istore_n j =>
    obtain ⟨rfl, rfl, hno, ⟨-, hj, x, r, rfl, rfl, rfl⟩ | ⟨hc, -⟩ | ⟨hc, -⟩⟩ := sSt_inv h
    · exact aw_st1 (v := vI x) hf rfl hj hno (fun _ _ _ _ _ _ _ _ _ _ _ _ _ _ _ _ _ _ _ _ _ hx hb hd hh hn kk => lv_istore_n hx hb hd rfl hh hn rfl kk) k
    · cases hc
    · cases hc
  case lstore j =>
    obtain ⟨rfl, rfl, hno, ⟨hc, -⟩ | ⟨-, hj, x, r, rfl, rfl, rfl⟩ | ⟨hc, -⟩⟩ := sSt_inv h
    · cases hc
    · exact aw_st2 hf rfl hj hno (fun _ _ _ _ _ _ _ _ _ _ _ _ _ _ _ _ _ _ _ _ _ hx hb hd hh hn kk => lv_lstore hx hb hd hh hn rfl kk) k
    · cases hc
  case lstore_n j =>
    obtain ⟨rfl, rfl, hno, ⟨hc, -⟩ | ⟨-, hj, x, r, rfl, rfl, rfl⟩ | ⟨hc, -⟩⟩ := sSt_inv h
    · cases hc
    · exact aw_st2 hf rfl hj hno (fun _ _ _ _ _ _ _ _ _ _ _ _ _ _ _ _ _ _ _ _ _ hx hb hd hh hn kk => lv_lstore_n hx hb hd rfl hh hn rfl kk) k
    · cases hc
  case astore j =>
    obtain ⟨rfl, rfl, hno, ⟨hc, -⟩ | ⟨hc, -⟩ | ⟨-, hj, t, h0, r, rfl, rfl, rfl⟩⟩ := sSt_inv h
    · cases hc
    · cases hc
    · exact aw_st1 (v := vR t h0) hf rfl hj hno (fun _ _ _ _ _ _ _ _ _ _ _ _ _ _ _ _ _ _ _ _ _ hx hb hd hh hn kk => lv_astore hx hb hd hh hn rfl kk) k
  case astore_n j =>
    obtain ⟨rfl, rfl, hno, ⟨hc, -⟩ | ⟨hc, -⟩ | ⟨-, hj, t, h0, r, rfl, rfl, rfl⟩⟩ := sSt_inv h
    · cases hc
    · cases hc
    · exact aw_st1 (v := vR t h0) hf rfl hj hno (fun _ _ _ _ _ _ _ _ _ _ _ _ _ _ _ _ _ _ _ _ _ hx hb hd hh hn kk => lv_astore_n hx hb hd rfl hh hn rfl kk) k
  case iinc j n => exact aw_inc hf h k
  case iadd => exact aw_bin hf rfl (fun _ _ _ _ _ _ _ _ _ _ _ _ _ _ _ _ _ _ _ _ _ hx hb hd kk => lv_iadd hx hb hd kk) h k
  case isub => exact aw_bin hf rfl (fun _ _ _ _ _ _ _ _ _ _ _ _ _ _ _ _ _ _ _ _ _ hx hb hd kk => lv_isub hx hb hd kk) h k
  case imul => exact aw_bin hf rfl (fun _ _ _ _ _ _ _ _ _ _ _ _ _ _ _ _ _ _ _ _ _ hx hb hd kk => lv_imul hx hb hd kk) h k
  case iand => exact aw_bin hf rfl (fun _ _ _ _ _ _ _ _ _ _ _ _ _ _ _ _ _ _ _ _ _ hx hb hd kk => lv_iand hx hb hd kk) h k
  case ior => exact aw_bin hf rfl (fun _ _ _ _ _ _ _ _ _ _ _ _ _ _ _ _ _ _ _ _ _ hx hb hd kk => lv_ior hx hb hd kk) h k
  case ishl => exact aw_bin hf rfl (fun _ _ _ _ _ _ _ _ _ _ _ _ _ _ _ _ _ _ _ _ _ hx hb hd kk => lv_ishl hx hb hd kk) h k
  case ishr => exact aw_bin hf rfl (fun _ _ _ _ _ _ _ _ _ _ _ _ _ _ _ _ _ _ _ _ _ hx hb hd kk => lv_ishr hx hb hd kk) h k
  case iushr => exact aw_bin hf rfl (fun _ _ _ _ _ _ _ _ _ _ _ _ _ _ _ _ _ _ _ _ _ hx hb hd kk => lv_iushr hx hb hd rfl kk) h k
  case idiv => exact aw_div hf rfl (fun _ _ _ hy _ _ _ _ _ _ _ _ _ _ _ _ _ _ _ _ _ _ hx hb hd kk => lv_idiv hx hb hd hy kk) h hP k
  case irem => exact aw_div hf rfl (fun _ _ _ hy _ _ _ _ _ _ _ _ _ _ _ _ _ _ _ _ _ _ hx hb hd kk => lv_irem hx hb hd hy kk) h hP k
  case ineg => exact aw_un hf rfl (fun _ _ _ _ _ _ _ _ _ _ _ _ _ _ _ _ _ _ _ _ hx hb hd kk => lv_ineg hx hb hd kk) h k
  case i2b => exact aw_un hf rfl (fun _ _ _ _ _ _ _ _ _ _ _ _ _ _ _ _ _ _ _ _ hx hb hd kk => lv_i2b hx hb hd rfl kk) h k
  case i2s => exact aw_un hf rfl (fun _ _ _ _ _ _ _ _ _ _ _ _ _ _ _ _ _ _ _ _ hx hb hd kk => lv_i2s hx hb hd rfl kk) h k
  case i2c => exact aw_un hf rfl (fun _ _ _ _ _ _ _ _ _ _ _ _ _ _ _ _ _ _ _ _ hx hb hd kk => lv_i2c hx hb hd rfl kk) h k
  case i2l =>
    simp only [astep] at h
    split at h
    · rename_i x r
      cases h
      exact aw_pure (st' := vJ x.toInt64 :: r) hf rfl (fun q _ => okl_cons.mpr ⟨trivial, (okl_cons.mp q).2⟩) (fun _ _ _ _ _ _ _ _ _ _ _ _ _ _ _ _ _ _ hx hb hd kk => lv_i2l hx hb hd rfl kk) k
    · cases h
  case l2i =>
    simp only [astep] at h
    split at h
    · rename_i x r
      cases h
      exact aw_pure (st' := vI x.toInt32 :: r) hf rfl (fun q _ => okl_cons.mpr ⟨trivial, (okl_cons.mp q).2⟩) (fun _ _ _ _ _ _ _ _ _ _ _ _ _ _ _ _ _ _ hx hb hd kk => lv_l2i hx hb hd rfl kk) k
    · cases h
  case lcmp =>
    simp only [astep] at h
    split at h
    · rename_i y x r
      cases h
      exact aw_pure (st' := vI (lg_cmp x y) :: r) hf rfl (fun q _ => okl_cons.mpr ⟨trivial, (okl_cons.mp (okl_cons.mp q).2).2⟩) (fun _ _ _ _ _ _ _ _ _ _ _ _ _ _ _ _ _ _ hx hb hd kk => W.lcmp hx hb hd kk) k
    · cases h
  case ladd => exact aw_binJ hf rfl (fun _ _ _ _ _ _ _ _ _ _ _ _ _ _ _ _ _ _ _ _ _ hx hb hd kk => lv_ladd hx hb hd kk) h k
  case lmul => exact aw_binJ hf rfl (fun _ _ _ _ _ _ _ _ _ _ _ _ _ _ _ _ _ _ _ _ _ hx hb hd kk => lv_lmul hx hb hd kk) h k
  case ldiv => exact aw_divJ hf rfl (fun _ _ _ hy _ _ _ _ _ _ _ _ _ _ _ _ _ _ _ _ _ _ hx hb hd kk => lv_ldiv hx hb hd hy kk) h hP k
  case lrem => exact aw_divJ hf rfl (fun _ _ _ hy _ _ _ _ _ _ _ _ _ _ _ _ _ _ _ _ _ _ hx hb hd kk => lv_lrem hx hb hd hy kk) h hP k
  case dup =>
    simp only [astep] at h
    split at h
    · rename_i x r
      cases h
      exact aw_pure (st' := vI x :: vI x :: r) hf rfl (fun q _ => okl_cons.mpr ⟨trivial, q⟩) (fun _ _ _ _ _ _ _ _ _ _ _ _ _ _ _ _ _ _ hx hb hd kk => lv_dup hx hb hd rfl kk) k
    · rename_i x r
      cases h
      exact aw_pure (st' := .inr (.inr x) :: .inr (.inr x) :: r) hf rfl (fun q _ => okl_cons.mpr ⟨(okl_cons.mp q).1, q⟩) (fun _ _ _ _ _ _ _ _ _ _ _ _ _ _ _ _ _ _ hx hb hd kk => lv_dup hx hb hd rfl kk) k
    · cases h
  case pop =>
    simp only [astep] at h
    split at h
    · rename_i x
      cases h
      exact aw_pure hf rfl (fun q _ => (okl_cons.mp q).2) (fun _ _ _ _ _ _ _ _ _ _ _ _ _ _ _ _ _ _ hx hb hd kk => lv_pop hx hb hd rfl kk) k
    · rename_i x
      cases h
      exact aw_pure hf rfl (fun q _ => (okl_cons.mp q).2) (fun _ _ _ _ _ _ _ _ _ _ _ _ _ _ _ _ _ _ hx hb hd kk => lv_pop hx hb hd rfl kk) k
    · cases h
  case goto o =>
    cases h
    intro hl hol hos p e s mid args below meth c C H locs la hPw hS hL
    obtain ⟨hx, hb, -, -, hown, hts, -, -, -, -, -, -, -, hok⟩ := id C
    obtain ⟨hd, hn⟩ := fetch_1 hok hf rfl
    have htg : (pc : Int) + o = (np' : Int) := by
      have := (fetch_ok hok hf).2.2
      simpa [litE] using this
    exact lv_goto hx hb hd htg (k hl hol hos p e s mid args below meth c C H locs la hPw hS hL)
  case getfield j => exact aw_get hf h hP k
  case putfield j => exact aw_put hf h hP k
  case iaload => exact aw_ald (a := 0) (ty := .int) hf rfl (by decide) (fun X m h t => cel_i) (fun X => rfl) (fun _ _ _ _ _ _ _ _ _ _ _ _ _ _ _ _ _ _ _ _ _ _ q0 t0 _ _ _ _ _ hx hb hK hP he ht hin hd kk => va_iald hx hb hK hP q0 t0 he ht hin hd kk) h hP k
  case baload => exact aw_ald (a := 1) (ty := .boolean) hf rfl (by decide) (fun X m h t => cel_z) (fun X => rfl) (fun _ _ _ _ _ _ _ _ _ _ _ _ _ _ _ _ _ _ _ _ _ _ q0 t0 _ _ _ _ _ hx hb hK hP he ht hin hd kk => va_zald hx hb hK hP q0 t0 he ht hin hd kk) h hP k
  case caload => exact aw_ald (a := 2) (ty := .char) hf rfl (by decide) (fun X m h t e1 e2 _ => cel_c e1 e2) (fun X => rfl) (fun _ _ _ _ _ _ _ _ _ _ _ _ _ _ _ _ _ _ _ _ _ _ q0 t0 _ _ _ _ _ hx hb hK hP he ht hin hd kk => va_cald hx hb hK hP q0 t0 he ht hin hd kk) h hP k
  case iastore => exact aw_ast (a := 0) (ty := .int) hf rfl (by decide) (fun X m h t => cel_i) (fun X => rfl) (fun _ _ _ _ _ _ _ _ _ _ _ _ _ _ _ _ _ _ _ _ _ _ _ _ q0 t0 _ _ _ _ _ _ _ hx hb hK hP hD hS he ht hin hd kk => va_iast hx hb hK hP hD hS q0 t0 he ht hin hd (fun H1 l1 a1 _ a3 => kk H1 l1 a1 a3)) h hP k
  case bastore => exact aw_ast (a := 1) (ty := .boolean) hf rfl (by decide) (fun X m h t => cel_z) (fun X => rfl) (fun _ _ _ _ _ _ _ _ _ _ _ _ _ _ _ _ _ _ _ _ _ _ _ _ q0 t0 _ _ _ _ _ _ h01 hx hb hK hP hD hS he ht hin hd kk => va_zast hx hb hK hP hD hS q0 t0 he ht hin hd (fun H1 l1 a1 _ a3 => kk H1 l1 (by rw [vp_nar_b (h01 rfl)] at a1; exact a1) a3)) h hP k
  case aaload => exact aw_aal hf h hP k
  all_goals (cases h)
end
end
section
section
variable {G : GG} {pc np tg : Nat} {lit : Int32} {ls st st' r : List AV} {m : Mem}
-- ===== branches =====
def abr (q : Instr × Nat × Nat × Int32) (st : List AV) : Option (Prop × Nat × Nat × List AV) := match q with
  | (i, np, tg, _) => match i with
  | .ifCond c _ => match st with
    | .inl x :: r => match c with
      | .eq => some (x = 0, tg, np, r)
      | .ne => some (x = 0, np, tg, r)
      | .lt => some (x < 0, tg, np, r)
      | .ge => some (x < 0, np, tg, r)
      | .gt => some (0 < x, tg, np, r)
      | .le => some (0 < x, np, tg, r)
    | _ => none
  | .if_icmp c _ => match st with
    | .inl y :: .inl x :: r => match c with
      | .eq => some (x = y, tg, np, r)
      | .ne => some (x = y, np, tg, r)
      | .lt => some (x < y, tg, np, r)
      | .ge => some (x < y, np, tg, r)
      | .gt => some (y < x, tg, np, r)
      | .le => some (y < x, np, tg, r)
    | _ => none
  | _ => none
theorem aw_br1 {c : Jvm.ClassFile.Cond} {o : Int} {x : Int32} {cd : Prop} {t1 t2 : Nat} (hf : G.2.2.2.2.2.1.2.2.2.2.2.lookup pc = some (.ifCond c o, np, tg, lit)) (h : abr (.ifCond c o, np, tg, lit) (vI x :: r) = some (cd, t1, t2, st')) (k1 : cd → AW G t1 ls st' m) (k2 : ¬ cd → AW G t2 ls st' m) : AW G pc ls (vI x :: r) m := by
  intro hl hol hos p e s mid args below meth co C H locs la hPw hS hL
  obtain ⟨hx, hb, -, -, hown, hts, -, -, -, -, -, -, -, hok⟩ := id C
  obtain ⟨hd, hn⟩ := fetch_1 hok hf rfl
  have hn : np = pc + 3 := hn
  subst hn
  have htg : (pc : Int) + o = (tg : Int) := by
    have := (fetch_ok hok hf).2.2
    simpa [litE] using this
  have ho := (okl_cons.mp hos).2
  cases c
  case eq => cases h; exact lv_if_eq hx hb hd htg (fun q => k1 q hl hol ho p e s mid args below meth co C H locs la hPw hS hL) (fun q => k2 q hl hol ho p e s mid args below meth co C H locs la hPw hS hL)
  case ne => cases h; exact lv_if_ne hx hb hd htg (fun q => k2 q hl hol ho p e s mid args below meth co C H locs la hPw hS hL) (fun q => k1 q hl hol ho p e s mid args below meth co C H locs la hPw hS hL)
  case lt => cases h; exact lv_if_lt hx hb hd htg (fun q => k1 q hl hol ho p e s mid args below meth co C H locs la hPw hS hL) (fun q => k2 q hl hol ho p e s mid args below meth co C H locs la hPw hS hL)
  case ge => cases h; exact lv_if_ge hx hb hd htg (fun q => k2 (Int32.not_lt.mpr q) hl hol ho p e s mid args below meth co C H locs la hPw hS hL) (fun q => k1 (Int32.not_le.mp q) hl hol ho p e s mid args below meth co C H locs la hPw hS hL)
  case gt => cases h; exact lv_if_gt hx hb hd htg (fun q => k1 q hl hol ho p e s mid args below meth co C H locs la hPw hS hL) (fun q => k2 q hl hol ho p e s mid args below meth co C H locs la hPw hS hL)
  case le => cases h; exact lv_if_le hx hb hd htg (fun q => k2 (Int32.not_lt.mpr q) hl hol ho p e s mid args below meth co C H locs la hPw hS hL) (fun q => k1 (Int32.not_le.mp q) hl hol ho p e s mid args below meth co C H locs la hPw hS hL)
theorem aw_br2 {c : Jvm.ClassFile.Cond} {o : Int} {x y : Int32} {cd : Prop} {t1 t2 : Nat} (hf : G.2.2.2.2.2.1.2.2.2.2.2.lookup pc = some (.if_icmp c o, np, tg, lit)) (h : abr (.if_icmp c o, np, tg, lit) (vI y :: vI x :: r) = some (cd, t1, t2, st')) (k1 : cd → AW G t1 ls st' m) (k2 : ¬ cd → AW G t2 ls st' m) : AW G pc ls (vI y :: vI x :: r) m := by
  intro hl hol hos p e s mid args below meth co C H locs la hPw hS hL
  obtain ⟨hx, hb, -, -, hown, hts, -, -, -, -, -, -, -, hok⟩ := id C
  obtain ⟨hd, hn⟩ := fetch_1 hok hf rfl
  have hn : np = pc + 3 := hn
  subst hn
  have htg : (pc : Int) + o = (tg : Int) := by
    have := (fetch_ok hok hf).2.2
    simpa [litE] using this
  have ho := (okl_cons.mp (okl_cons.mp hos).2).2
  cases c
  case eq => cases h; exact lv_icmp_eq hx hb hd htg (fun q => k1 q hl hol ho p e s mid args below meth co C H locs la hPw hS hL) (fun q => k2 q hl hol ho p e s mid args below meth co C H locs la hPw hS hL)
  case ne => cases h; exact lv_icmp_ne hx hb hd htg (fun q => k2 q hl hol ho p e s mid args below meth co C H locs la hPw hS hL) (fun q => k1 q hl hol ho p e s mid args below meth co C H locs la hPw hS hL)
  case lt => cases h; exact lv_icmp_lt hx hb hd htg (fun q => k1 q hl hol ho p e s mid args below meth co C H locs la hPw hS hL) (fun q => k2 q hl hol ho p e s mid args below meth co C H locs la hPw hS hL)
  case ge => cases h; exact lv_icmp_ge hx hb hd htg (fun q => k2 (Int32.not_lt.mpr q) hl hol ho p e s mid args below meth co C H locs la hPw hS hL) (fun q => k1 (Int32.not_le.mp q) hl hol ho p e s mid args below meth co C H locs la hPw hS hL)
  case gt => cases h; exact lv_icmp_gt hx hb hd htg (fun q => k1 q hl hol ho p e s mid args below meth co C H locs la hPw hS hL) (fun q => k2 q hl hol ho p e s mid args below meth co C H locs la hPw hS hL)
  case le => cases h; exact lv_icmp_le hx hb hd htg (fun q => k2 (Int32.not_lt.mpr q) hl hol ho p e s mid args below meth co C H locs la hPw hS hL) (fun q => k1 (Int32.not_le.mp q) hl hol ho p e s mid args below meth co C H locs la hPw hS hL)
theorem AW.br {q : Instr × Nat × Nat × Int32} {cd : Prop} {t1 t2 : Nat} (hf : G.2.2.2.2.2.1.2.2.2.2.2.lookup pc = some q) (h : abr q st = some (cd, t1, t2, st')) (k1 : cd → AW G t1 ls st' m) (k2 : ¬ cd → AW G t2 ls st' m) : AW G pc ls st m := by
  obtain ⟨i, np, tg, lit⟩ := q
  cases i
  case ifCond c o =>
    rcases st with _ | ⟨x | x | x, r⟩
    · cases h
    · exact aw_br1 hf h k1 k2
    · cases h
    · cases h
  case if_icmp c o =>
    rcases st with _ | ⟨y | y | y, _ | ⟨x | x | x, r⟩⟩
    · cases h
    · cases h
    · exact aw_br2 hf h k1 k2
    all_goals (cases h)
  all_goals (cases h)
theorem AW.tin {d lo hi off : Int} {offs : Array Int} {x : Int32} {tgt : Nat} (hf : G.2.2.2.2.2.1.2.2.2.2.2.lookup pc = some (.tableswitch d lo hi offs, np, tg, lit)) (h1 : ¬ x.toInt < lo) (h2 : ¬ hi < x.toInt) (ho : offs[(x.toInt - lo).toNat]? = some off) (ht : (pc : Int) + off = (tgt : Int)) (k : AW G tgt ls r m) : AW G pc ls (vI x :: r) m := by
  intro hl hol hos p e s mid args below meth co C H locs la hPw hS hL
  obtain ⟨hx, hb, -, -, hown, hts, -, -, -, -, -, -, -, hok⟩ := id C
  exact lv_tableIn hx hb (fetch_ok hok hf).1 h1 h2 ho ht (k hl hol (okl_cons.mp hos).2 p e s mid args below meth co C H locs la hPw hS hL)
theorem AW.tout {d lo hi : Int} {offs : Array Int} {x : Int32} {tgt : Nat} (hf : G.2.2.2.2.2.1.2.2.2.2.2.lookup pc = some (.tableswitch d lo hi offs, np, tg, lit)) (h : x.toInt < lo ∨ hi < x.toInt) (ht : (pc : Int) + d = (tgt : Int)) (k : AW G tgt ls r m) : AW G pc ls (vI x :: r) m := by
  intro hl hol hos p e s mid args below meth co C H locs la hPw hS hL
  obtain ⟨hx, hb, -, -, hown, hts, -, -, -, -, -, -, -, hok⟩ := id C
  exact lv_tableOut hx hb (fetch_ok hok hf).1 h ht (k hl hol (okl_cons.mp hos).2 p e s mid args below meth co C H locs la hPw hS hL)
theorem AW.look {d off : Int} {ps : Array (Int × Int)} {x : Int32} {tgt : Nat} (hf : G.2.2.2.2.2.1.2.2.2.2.2.lookup pc = some (.lookupswitch d ps, np, tg, lit)) (hp : (ps.toList.zip (ps.toList.drop 1)).all (fun (a, next) => a.1 < next.1) = true) (ho : Op.lookupswitch.offset ps.toList d x.toInt = off) (ht : (pc : Int) + off = (tgt : Int)) (k : AW G tgt ls r m) : AW G pc ls (vI x :: r) m := by
  intro hl hol hos p e s mid args below meth co C H locs la hPw hS hL
  obtain ⟨hx, hb, -, -, hown, hts, -, -, -, -, -, -, -, hok⟩ := id C
  exact lv_lookup hx hb (fetch_ok hok hf).1 hp ho ht (k hl hol (okl_cons.mp hos).2 p e s mid args below meth co C H locs la hPw hS hL)
-- ===== methods: contract, entry, end =====
def rmd (d : Nat) : Room := { frames := d, cells := 0, slots := 0, locals := 60 * d }
def wsM (μ : MI) : List Cond := .code μ.1 μ.2.1 μ.2.2.1 μ.2.2.2.1 :: GT
def PreM (X : XT) (m : Mem) (vs : List AV) : Array Value → State → Prop := fun v U => v = (vs.map (cv X)).toArray ∧ va_P (xD X) vwCl (wsOf X m) U.heap ∧ va_K (xD X) vwCl (tysOf X) U ∧ KS X U U.heap ∧ xb X ≤ U.heap.size
def PostM (X : XT) (Q : Option AV → Mem → Prop) : Array Value → State → Outcome → State → Prop := fun _ st o t => (∃ (r : Option AV) (m' : Mem), o = .returned (r.map (cv X)) ∧ Q r m' ∧ okl X r.toList ∧ va_P (xD X) vwCl (wsOf X m') t.heap) ∧ va_F (xA X) st t
def ZM (X : XT) (Q : Option AV → Mem → Prop) : List Frame → Array Value → State → State → Prop := fun below args s => MQ below (PostM X Q) args s 0 0 (xA X)
/-- the method, called with vs where the cells hold m, returns, and Q holds of answer and cells then -/
def Meth (l : Launch) (X : XT) (d : Nat) (μ : MI) (vs : List AV) (m : Mem) (Q : Option AV → Mem → Prop) : Prop :=
  (xN X = NC ∨ xN X = NTT) → okl X vs → Met l μ.1 (wsM μ) (rmd d) (PreM X m vs) (PostM X Q) 0 0 (xA X)
abbrev GM (l : Launch) (X : XT) (d : Nat) (μ : MI) (Q : Option AV → Mem → Prop) : GG := (l, X, rmd d, 0, 0, μ, ZM X Q)
def entL (vs : List AV) : List AV := match vs with
  | [] => []
  | .inr (.inl x) :: r => vJ x :: vU :: entL r
  | v :: r => v :: entL r
def ent (n : Nat) (vs : List AV) : List AV := entL vs ++ List.replicate (n - (entL vs).length) vU
theorem entL_in {X : XT} (vs : List AV) : ∀ (o k : Nat) (v : AV), (entL vs)[k]? = some v → unk v = false → (o + k, cv X v) ∈ lv_args o (vs.map (cv X)) := by
  induction vs with
  | nil => intro o k v h; simp [entL] at h
  | cons a r ih =>
    intro o k v h hu
    rcases a with x | x | q
    · have e : entL ((.inl x : AV) :: r) = vI x :: entL r := rfl
      rw [e] at h
      cases k with
      | zero => cases h; exact List.mem_cons_self
      | succ k =>
        have := ih (o + 1) k v h hu
        rw [show o + 1 + k = o + (k + 1) by omega] at this
        exact List.mem_cons_of_mem _ this
    · have e : entL ((.inr (.inl x) : AV) :: r) = vJ x :: vU :: entL r := rfl
      rw [e] at h
      match k, h with
      | 0, h => cases h; exact List.mem_cons_self
      | 1, h => cases h; cases hu
      | k + 2, h =>
        have := ih (o + 2) k v h hu
        rw [show o + 2 + k = o + (k + 2) by omega] at this
        exact List.mem_cons_of_mem _ this
    · have e : entL ((.inr (.inr q) : AV) :: r) = .inr (.inr q) :: entL r := rfl
      rw [e] at h
      cases k with
      | zero => cases h; exact List.mem_cons_self
      | succ k =>
        have := ih (o + 1) k v h hu
        rw [show o + 1 + k = o + (k + 1) by omega] at this
        exact List.mem_cons_of_mem _ this
theorem entL_len {X : XT} (vs : List AV) : (lg_sl (vs.map (cv X))).length = (entL vs).length := by
  induction vs with
  | nil => rfl
  | cons a r ih =>
    rcases a with x | x | q
    · show (Slot.val (.int x) :: lg_sl (r.map (cv X))).length = (vI x :: entL r).length
      simp [ih]
    · show (Slot.val (.long x) :: Slot.second :: lg_sl (r.map (cv X))).length = (vJ x :: vU :: entL r).length
      simp [ih]
    · show (Slot.val _ :: lg_sl (r.map (cv X))).length = (_ :: entL r).length
      simp [ih]
theorem ent_ok {X : XT} (vs : List AV) (h : okl X vs) : okl X (entL vs) := by
  induction vs with
  | nil => exact h
  | cons a r ih =>
    have h1 := okl_cons.mp h
    rcases a with x | x | q
    · exact okl_cons.mpr ⟨h1.1, ih h1.2⟩
    · exact okl_cons.mpr ⟨h1.1, okl_cons.mpr ⟨okv_U, ih h1.2⟩⟩
    · exact okl_cons.mpr ⟨h1.1, ih h1.2⟩
theorem Meth.enter {l : Launch} {X : XT} {d : Nat} {μ : MI} {vs : List AV} {Q : Option AV → Mem → Prop} (hok : okP μ.2.2.2.2.1 μ.2.1 μ.2.2.2.2.2 = true) (hpl : plainName μ.1.cls = true) (hcl : μ.1.cls = Rn μ.2.2.2.2.1) (hn : (entL vs).length ≤ μ.2.2.1) (k : AW (GM l X d μ Q) 0 (ent μ.2.2.1 vs) [] m) : Meth l X d μ vs m Q := by
  intro hN hov
  refine Met.ofW (cc := μ.2.1) (maxL := μ.2.2.1) (ret := μ.2.2.2.1) hpl rfl ?_
  intro p e s mid args below meth c s₁ B hml hv
  obtain ⟨rfl, hP, hK, hKS, hbz⟩ := hv
  have hts := atoms_spec (ws := wsM μ) B.pre
  have hown : s.vm.findClass μ.1.cls = some mid.cls := findClass_of_methodNamed B.named
  have hl := lv_entry (vs.map (cv X)) (n := μ.2.2.1) (by rw [entL_len]; exact hn)
  rw [lg_entry_eq]
  have hlen : (ent μ.2.2.1 vs).length = μ.2.2.1 := by
    unfold ent
    rw [List.length_append, List.length_replicate]
    omega
  refine k hlen ?_ okl_nil p e s mid _ below meth c ⟨B.exec, B.bytes, B.returns, hml, by rw [← hcl]; exact hown, fun w hw => hts w (List.mem_cons_of_mem _ hw), B.notSynchronized, hK, hKS, hN, hbz, Nat.le_refl _, Nat.le_refl _, hok⟩ s.heap [] _ hP va_S.rf ?_
  · intro v hv
    unfold ent at hv
    rcases List.mem_append.mp hv with h | h
    · exact ent_ok vs hov v h
    · rw [(List.mem_replicate.mp h).2]
      exact okv_U
  · refine lRep_of hl hlen.symm (fun j v hj hu => ?_)
    unfold ent at hj
    by_cases hjl : j < (entL vs).length
    · rw [List.getElem?_append_left hjl] at hj
      have := entL_in (X := X) vs 0 j v hj hu
      rwa [Nat.zero_add] at this
    · rw [List.getElem?_append_right (by omega)] at hj
      have := List.eq_of_mem_replicate (List.mem_of_getElem? hj)
      subst this
      cases hu
theorem AW.ri {l : Launch} {X : XT} {d : Nat} {μ : MI} {Q : Option AV → Mem → Prop} {v : Int32} {ty : FieldType} (hf : μ.2.2.2.2.2.lookup pc = some (.ireturn, np, tg, lit)) (hr : μ.2.2.2.1 = some ty) (hn : narrow ty (.int v) = .int v) (hq : Q (some (vI v)) m) : AW (GM l X d μ Q) pc ls [vI v] m := by
  intro hl hol hos p e s mid args below meth co C H locs la hPw hS hL
  obtain ⟨hx, hb, hrr, -, hown, hts, hlk, -, -, -, -, -, -, hok⟩ := id C
  obtain ⟨hd, -⟩ := fetch_1 hok hf rfl
  exact W.zret (ty := ty) (v := v) hx hb (hrr.trans hr) hn (fun t ht hW => ⟨⟨some (vI v), m, rfl, hq, hos, by rw [ht]; exact hPw⟩, hS.F ht⟩) hS.2.2 hd
theorem AW.rl {l : Launch} {X : XT} {d : Nat} {μ : MI} {Q : Option AV → Mem → Prop} {v : Int64} (hf : μ.2.2.2.2.2.lookup pc = some (.lreturn, np, tg, lit)) (hr : μ.2.2.2.1 = some .long) (hq : Q (some (vJ v)) m) : AW (GM l X d μ Q) pc ls [vJ v] m := by
  intro hl hol hos p e s mid args below meth co C H locs la hPw hS hL
  obtain ⟨hx, hb, hrr, -, hown, hts, hlk, -, -, -, -, -, -, hok⟩ := id C
  obtain ⟨hd, -⟩ := fetch_1 hok hf rfl
  exact W.lret (v := v) hx hb (hrr.trans hr) (fun t ht hW => ⟨⟨some (vJ v), m, rfl, hq, hos, by rw [ht]; exact hPw⟩, hS.F ht⟩) hS.2.2 hd
theorem AW.ra {l : Launch} {X : XT} {d : Nat} {μ : MI} {Q : Option AV → Mem → Prop} {t h : Nat} {ty : FieldType} (hf : μ.2.2.2.2.2.lookup pc = some (.areturn, np, tg, lit)) (hr : μ.2.2.2.1 = some ty) (hty : (∃ n, ty = .object n) ∨ ∃ t, ty = .array t) (hq : Q (some (vR t h)) m) : AW (GM l X d μ Q) pc ls [vR t h] m := by
  intro hl hol hos p e s mid args below meth co C H locs la hPw hS hL
  obtain ⟨hx, hb, hrr, -, hown, hts, hlk, -, -, -, -, -, -, hok⟩ := id C
  obtain ⟨hd, -⟩ := fetch_1 hok hf rfl
  exact W.aret (v := cv X (vR t h)) hx hb (hrr.trans hr) hty (Or.inr ⟨_, rfl⟩) (fun T ht hW => ⟨⟨some (vR t h), m, rfl, hq, hos, by rw [ht]; exact hPw⟩, hS.F ht⟩) hS.2.2 hd
theorem AW.rv {l : Launch} {X : XT} {d : Nat} {μ : MI} {Q : Option AV → Mem → Prop} (hf : μ.2.2.2.2.2.lookup pc = some (.return_, np, tg, lit)) (hr : μ.2.2.2.1 = none) (hq : Q none m) : AW (GM l X d μ Q) pc ls [] m := by
  intro hl hol hos p e s mid args below meth co C H locs la hPw hS hL
  obtain ⟨hx, hb, hrr, -, hown, hts, hlk, -, -, -, -, -, -, hok⟩ := id C
  obtain ⟨hd, -⟩ := fetch_1 hok hf rfl
  exact W.vret hx hb (hrr.trans hr) (fun t ht hW => ⟨⟨none, m, rfl, hq, okl_nil, by rw [ht]; exact hPw⟩, hS.F ht⟩) hS.2.2 hd
end
end
section
def catA (v : AV) : Nat := match v with
  | .inr (.inl _) => 2
  | _ => 1
theorem catA_cv {X : XT} (l : List AV) : ((l.map (cv X)).map fun v => v.category).sum = (l.map catA).sum := by
  induction l with
  | nil => rfl
  | cons a r ih =>
    simp only [List.map_cons, List.sum_cons, ih]
    congr 1
    rcases a with x | x | q <;> rfl
/-- n arguments, the receiver, the rest -/
def splV (n : Nat) (st : List AV) : Option (List AV × Nat × Nat × List AV) := match st.drop n with
  | .inr (.inr (t, h)) :: r => if n ≤ st.length then some ((st.take n).reverse, t, h, r) else none
  | _ => none
theorem splV_eq {n : Nat} {st As rest : List AV} {t h : Nat} (e : splV n st = some (As, t, h, rest)) : st = As.reverse ++ vR t h :: rest ∧ As.length = n := by
  unfold splV at e
  split at e
  · rename_i t0 h0 r0 hd
    split at e
    · rename_i hn
      cases e
      refine ⟨?_, ?_⟩
      · rw [List.reverse_reverse, ← hd, List.take_append_drop]
      · rw [List.length_reverse, List.length_take]; omega
    · cases e
  · cases e
def splS (n : Nat) (st : List AV) : Option (List AV × List AV) := if n ≤ st.length then some ((st.take n).reverse, st.drop n) else none
theorem splS_eq {n : Nat} {st As rest : List AV} (e : splS n st = some (As, rest)) : st = As.reverse ++ rest ∧ As.length = n := by
  unfold splS at e
  split at e
  · rename_i hn
    cases e
    refine ⟨?_, ?_⟩
    · rw [List.reverse_reverse, List.take_append_drop]
    · rw [List.length_reverse, List.length_take]; omega
  · cases e
def CVok (own idx : Nat) (μ : MI) (n : Nat) : Prop := GoodIn GT (wsV (Rn own) idx μ.1.cls μ.1 (wsM μ)) ∧ (μ.1.cls ≠ "java/lang/invoke/MethodHandle" ∧ μ.1.cls ≠ "java/lang/invoke/VarHandle" ∧ (parseMethodDescriptor μ.1.desc).map (fun d => d.parameters.length) = some n)
def CSok (own idx : Nat) (μ : MI) (n : Nat) : Prop := GoodIn GT (va_wsS (Rn own) idx μ.1 (wsM μ)) ∧ (μ.1.cls ≠ "java/lang/invoke/MethodHandle" ∧ μ.1.cls ≠ "java/lang/invoke/VarHandle" ∧ (parseMethodDescriptor μ.1.desc).map (fun d => d.parameters.length) = some n)
def CNok (own idx : Nat) (μ : MI) (n : Nat) (host : String) : Prop := GoodIn GT ([.static μ.1, .initialized μ.1.cls] ++ wsM μ) ∧ (Rn own, idx, μ.1, host) ∈ NWS ∧ (μ.1.cls ≠ "java/lang/invoke/MethodHandle" ∧ μ.1.cls ≠ "java/lang/invoke/VarHandle" ∧ (parseMethodDescriptor μ.1.desc).map (fun d => d.parameters.length) = some n)
theorem GT_list {ws : List Cond} (ps : List Nat) (h : ws = ps.filterMap (fun i => lw_tbl[i]?)) (g : ws.all goodWord = true) : GoodIn GT ws := by
  intro w hw
  have g1 := List.all_eq_true.mp g w hw
  rw [h] at hw
  obtain ⟨i, -, hi⟩ := List.mem_filterMap.mp hw
  exact ⟨GT_in i hi g1, good_of_word g1⟩
theorem GT_app {ws : List Cond} (h : GoodIn GT ws) : GoodIn GT (ws ++ GT) := fun w hw => (List.mem_append.mp hw).elim (h w) (GT_good w)
theorem CV_of {own idx : Nat} {μ : MI} {n : Nat} (ps : List Nat) (h : ([.methodLink (Rn own) idx μ.1, .instanceMethod μ.1, .selects μ.1.cls μ.1 μ.1, .initialized μ.1.cls, .code μ.1 μ.2.1 μ.2.2.1 μ.2.2.2.1] : List Cond) = ps.filterMap (fun i => lw_tbl[i]?)) (g : ([.methodLink (Rn own) idx μ.1, .instanceMethod μ.1, .selects μ.1.cls μ.1 μ.1, .initialized μ.1.cls, .code μ.1 μ.2.1 μ.2.2.1 μ.2.2.2.1] : List Cond).all goodWord = true)
    (d : μ.1.cls ≠ "java/lang/invoke/MethodHandle" ∧ μ.1.cls ≠ "java/lang/invoke/VarHandle" ∧ (parseMethodDescriptor μ.1.desc).map (fun d => d.parameters.length) = some n) : CVok own idx μ n := ⟨GT_app (GT_list ps h g), d⟩
theorem CS_of {own idx : Nat} {μ : MI} {n : Nat} (ps : List Nat) (h : ([.methodLink (Rn own) idx μ.1, .static μ.1, .initialized μ.1.cls, .code μ.1 μ.2.1 μ.2.2.1 μ.2.2.2.1] : List Cond) = ps.filterMap (fun i => lw_tbl[i]?)) (g : ([.methodLink (Rn own) idx μ.1, .static μ.1, .initialized μ.1.cls, .code μ.1 μ.2.1 μ.2.2.1 μ.2.2.2.1] : List Cond).all goodWord = true)
    (d : μ.1.cls ≠ "java/lang/invoke/MethodHandle" ∧ μ.1.cls ≠ "java/lang/invoke/VarHandle" ∧ (parseMethodDescriptor μ.1.desc).map (fun d => d.parameters.length) = some n) : CSok own idx μ n := ⟨GT_app (GT_list ps h g), d⟩
theorem CN_of {own idx : Nat} {μ : MI} {n : Nat} {host : String} (ps : List Nat) (h : ([.static μ.1, .initialized μ.1.cls, .code μ.1 μ.2.1 μ.2.2.1 μ.2.2.2.1] : List Cond) = ps.filterMap (fun i => lw_tbl[i]?)) (g : ([.static μ.1, .initialized μ.1.cls, .code μ.1 μ.2.1 μ.2.2.1 μ.2.2.2.1] : List Cond).all goodWord = true) (hn : (Rn own, idx, μ.1, host) ∈ NWS)
    (d : μ.1.cls ≠ "java/lang/invoke/MethodHandle" ∧ μ.1.cls ≠ "java/lang/invoke/VarHandle" ∧ (parseMethodDescriptor μ.1.desc).map (fun d => d.parameters.length) = some n) : CNok own idx μ n host := ⟨GT_app (GT_list ps h g), hn, d⟩
theorem PreM_blind {X : XT} {m : Mem} {vs : List AV} : FrameBlind (PreM X m vs) := fun a U g mk q => by
  obtain ⟨q0, q1, q2, q3, q4⟩ := q
  exact ⟨q0, q1, va_K.moved (u := U) (U := U.calling g mk a) (Vm.Alike.refl U.vm) q2, KS.go (s := U) (U := U.calling g mk a) q3 (State.WarmedH.refl U) q4 (fun _ _ _ => rfl), q4⟩
section
variable {p : Program} {l : Launch} {e : Env} {R : Room} {s : State} {mid : MethodId} {args : Array Value} {below : List Frame} {meth : Method} {c : Code} {H : Heap} {locs : List Loc} {cells slots : Nat} {Z : State → Prop}
theorem aw_after {X : XT} {Q : Option AV → Mem → Prop} {a : Array Value} {pc : Nat} {la : Array Slot} {st0 rest : List Value} (hr : va_Run p l e R s mid args below meth c H locs cells slots 0 0 (F0 mid pc la st0) rest (PostM X Q a) (xA X)) (hS : va_S (xA X) s.heap H locs)
    (kk : ∀ (r : Option AV) (m' : Mem) (H1 : Heap) (locs1 : List Loc), Q r m' → okl X r.toList → va_P (xD X) vwCl (wsOf X m') H1 → va_S (xA X) s.heap H1 locs1 → W p l e R s mid args below meth c H1 locs1 cells slots Z (F0 mid (pc + 3) la (r.toList.map (cv X) ++ rest))) : W p l e R s mid args below meth c H locs cells slots Z (F0 mid pc la st0) := by
  intro T hT Xs
  obtain ⟨v, st₀, t, T', L, h0, X', hL, e1, e2, ⟨⟨r, m', hv, hq, hor, hp⟩, hz, hk⟩, st⟩ := hr T hT Xs
  cases hv
  rw [h0] at hz hk
  obtain ⟨t2, a1, b1⟩ := kk r m' T'.heap (locs ++ L) hq hor (by rw [e1]; exact hp)
    ⟨Nat.le_trans hS.1 (by rw [e1]; exact hz), fun q h1 h2 => by rw [e1, hk q (Nat.lt_of_lt_of_le h1 hS.1) h2]; exact hS.2.1 q h1 h2, fun q hq => by
      rcases List.mem_append.mp hq with h | h
      · exact hS.2.2 q h
      · exact hL q h⟩ T' rfl X'
  refine ⟨t2, st t2 ?_, b1⟩
  rw [show (r.map (cv X)).toList = r.toList.map (cv X) by cases r <;> rfl]
  exact a1
end
theorem vw_n {t : Nat} (h : t < 12) : ∃ q : vw_C, vwCl[t]? = some q ∧ q.1 = Rn t := by
  match t, h with
  | 0, _ => exact ⟨_, rfl, rfl⟩
  | 1, _ => exact ⟨_, rfl, rfl⟩
  | 2, _ => exact ⟨_, rfl, rfl⟩
  | 3, _ => exact ⟨_, rfl, rfl⟩
  | 4, _ => exact ⟨_, rfl, rfl⟩
  | 5, _ => exact ⟨_, rfl, rfl⟩
  | 6, _ => exact ⟨_, rfl, rfl⟩
  | 7, _ => exact ⟨_, rfl, rfl⟩
  | 8, _ => exact ⟨_, rfl, rfl⟩
  | 9, _ => exact ⟨_, rfl, rfl⟩
  | 10, _ => exact ⟨_, rfl, rfl⟩
  | 11, _ => exact ⟨_, rfl, rfl⟩
  | k + 12, h => exact absurd h (by omega)
section
variable {G : GG} {pc np tg : Nat} {lit : Int32} {ls st rest As : List AV} {m : Mem} {idx n d' : Nat} {μ : MI} {Q : Option AV → Mem → Prop}
theorem aw_pre {X : XT} {s U : State} {H : Heap} {locs : List Loc} {args : Array Value} {vs : List AV} (hK : va_K (xD X) vwCl (tysOf X) s) (hKS : KS X s s.heap) (hbz : xb X ≤ s.heap.size) (hPw : va_P (xD X) vwCl (wsOf X m) H) (hS : va_S (xA X) s.heap H locs) (hU : U.heap = H) (hW : s.WarmedH U.vm) : PreM X m vs (vs.map (cv X)).toArray U := by
  refine ⟨rfl, by rw [hU]; exact hPw, va_K.moved hW.alike hK, ?_, ?_⟩
  · rw [hU]
    exact KS.go hKS hW hbz (fun a h1 h2 => hS.2.1 a h1 h2)
  · rw [hU]
    exact Nat.le_trans hbz hS.1
theorem AW.callV {t h : Nat} (hf : G.2.2.2.2.2.1.2.2.2.2.2.lookup pc = some (.invokevirtual idx, np, tg, lit)) (hs : splV n st = some (As, t, h, rest)) (hk : CVok G.2.2.2.2.2.1.2.2.2.2.1 idx μ n) (ht : 0 < t ∧ t < 13 ∧ Rn (t - 1) = μ.1.cls) (hR : d' + 1 ≤ G.2.2.1.frames ∧ 8 + (μ.2.2.1 + 11) + 60 * d' ≤ G.2.2.1.locals) (hr8 : (rest.map catA).sum ≤ 8)
    (hM : Meth G.1 G.2.1 d' μ (vR t h :: As) m Q) (kk : ∀ (r : Option AV) (m' : Mem), Q r m' → AW G np ls (r.toList ++ rest) m') : AW G pc ls st m := by
  obtain ⟨rfl, hlen⟩ := splV_eq hs
  intro hl hol hos p e s mid args below meth co C H locs la hPw hS hL
  obtain ⟨hx, hb, -, hml, hown, hts, hlk, hK, hKS, hN, hbz, hc1, hc2, hok⟩ := id C
  obtain ⟨hd, hn⟩ := fetch_1 hok hf rfl
  have hn : np = pc + 3 := hn
  subst hn
  have ho1 : okl G.2.1 As := fun v hv => hos v (List.mem_append_left _ (List.mem_reverse.mpr hv))
  have ho2 := okl_cons.mp (fun v hv => hos v (List.mem_append_right _ hv) : okl G.2.1 (vR t h :: rest))
  have hxt : isX t = false := isX_lt (by omega)
  obtain ⟨hh, hlay⟩ := okr_cell ho2.1 (by omega) hxt
  have he : (wsOf G.2.1 m)[h]? = some (xb G.2.1 + h, .inr (t - 1, fsOf G.2.1 m h t)) := by rw [ws_get _ _ hh, cel_o hlay (by omega)]
  obtain ⟨qc, hqc, hqn⟩ := vw_n (t := t - 1) (by omega)
  rw [ht.2.2] at hqn
  have hrc := va_recv hK hPw hqc he
  rw [hqn] at hrc
  have hM' := hM hN (okl_cons.mpr ⟨ho2.1, ho1⟩)
  have haof : cv G.2.1 (vR t h) = .ref (xb G.2.1 + h) := by
    show Value.ref (aof _ _ _) = _
    rw [aof_in hxt]
  have hvs : ((vR t h :: As).map (cv G.2.1)).toArray = (Value.ref (xb G.2.1 + h) :: As.map (cv G.2.1)).toArray := by rw [List.map_cons, haof]
  refine aw_after (rest := rest.map (cv G.2.1)) (va_runV (As := As.map (cv G.2.1)) (n := n) (b := xb G.2.1 + h) ⟨hx, hb, hml, hown, hts⟩ hM' (cwV n hts hk.1 rfl rfl rfl ⟨rfl, hk.2⟩ hR) ⟨PreM_blind, hrc, fun U hU hW => ?_⟩ rfl (by rw [List.length_map]; exact hlen) (hL.1.trans hl) ?_ (lv_room (by rw [catA_cv]; exact hr8)) hd ⟨hc1, hc2⟩) hS (fun r m' H1 locs1 hQ hor hP1 hS1 => ?_)
  · rw [← hvs]
    exact aw_pre (args := args) hK hKS hbz hPw hS hU hW
  · show (As.reverse ++ vR t h :: rest).map (cv G.2.1) = _
    rw [List.map_append, List.map_cons, haof, List.map_reverse]
  · have k1 := kk r m' hQ hl hol (fun v hv => (List.mem_append.mp hv).elim (hor v) (ho2.2 v)) p e s mid args below meth co C H1 locs1 la hP1 hS1 hL
    rw [List.map_append] at k1
    exact k1
theorem AW.callS (hf : G.2.2.2.2.2.1.2.2.2.2.2.lookup pc = some (.invokestatic idx, np, tg, lit)) (hs : splS n st = some (As, rest)) (hk : CSok G.2.2.2.2.2.1.2.2.2.2.1 idx μ n) (hR : d' + 1 ≤ G.2.2.1.frames ∧ 8 + (μ.2.2.1 + 11) + 60 * d' ≤ G.2.2.1.locals) (hr8 : (rest.map catA).sum ≤ 8)
    (hM : Meth G.1 G.2.1 d' μ As m Q) (kk : ∀ (r : Option AV) (m' : Mem), Q r m' → AW G np ls (r.toList ++ rest) m') : AW G pc ls st m := by
  obtain ⟨rfl, hlen⟩ := splS_eq hs
  intro hl hol hos p e s mid args below meth co C H locs la hPw hS hL
  obtain ⟨hx, hb, -, hml, hown, hts, hlk, hK, hKS, hN, hbz, hc1, hc2, hok⟩ := id C
  obtain ⟨hd, hn⟩ := fetch_1 hok hf rfl
  have hn : np = pc + 3 := hn
  subst hn
  have ho1 : okl G.2.1 As := fun v hv => hos v (List.mem_append_left _ (List.mem_reverse.mpr hv))
  have ho2 : okl G.2.1 rest := fun v hv => hos v (List.mem_append_right _ hv)
  have hM' := hM hN ho1
  refine aw_after (rest := rest.map (cv G.2.1)) (va_runS (As := As.map (cv G.2.1)) (n := n) ⟨hx, hb, hml, hown, hts⟩ hM' (va_cwS n hts hk.1 rfl rfl rfl hk.2 hR) ⟨PreM_blind, fun U hU hW => ?_⟩ rfl (by rw [List.length_map]; exact hlen) (hL.1.trans hl) ?_ (lv_room (by rw [catA_cv]; exact hr8)) hd ⟨hc1, hc2⟩) hS (fun r m' H1 locs1 hQ hor hP1 hS1 => ?_)
  · exact aw_pre (args := args) hK hKS hbz hPw hS hU hW
  · show (As.reverse ++ rest).map (cv G.2.1) = _
    rw [List.map_append, List.map_reverse]
  · have k1 := kk r m' hQ hl hol (fun v hv => (List.mem_append.mp hv).elim (hor v) (ho2 v)) p e s mid args below meth co C H1 locs1 la hP1 hS1 hL
    rw [List.map_append] at k1
    exact k1
theorem AW.callN {host : String} (hf : G.2.2.2.2.2.1.2.2.2.2.2.lookup pc = some (.invokestatic idx, np, tg, lit)) (hs : splS n st = some (As, rest)) (hk : CNok G.2.2.2.2.2.1.2.2.2.2.1 idx μ n host) (hR : d' + 1 ≤ G.2.2.1.frames ∧ 8 + (μ.2.2.1 + 11) + 60 * d' ≤ G.2.2.1.locals) (hr8 : (rest.map catA).sum ≤ 8)
    (hM : Meth G.1 G.2.1 d' μ As m Q) (kk : ∀ (r : Option AV) (m' : Mem), Q r m' → AW G np ls (r.toList ++ rest) m') : AW G pc ls st m := by
  obtain ⟨rfl, hlen⟩ := splS_eq hs
  intro hl hol hos p e s mid args below meth co C H locs la hPw hS hL
  obtain ⟨hx, hb, -, hml, hown, hts, hlk, hK, hKS, hN, hbz, hc1, hc2, hok⟩ := id C
  obtain ⟨hd, hn⟩ := fetch_1 hok hf rfl
  have hn : np = pc + 3 := hn
  subst hn
  have ho1 : okl G.2.1 As := fun v hv => hos v (List.mem_append_left _ (List.mem_reverse.mpr hv))
  have ho2 : okl G.2.1 rest := fun v hv => hos v (List.mem_append_right _ hv)
  have hM' := hM hN ho1
  have hnw : va_Nw (.methodLinkNest (Rn G.2.2.2.2.2.1.2.2.2.2.1) idx μ.1 host) s := hKS.1 _ hk.2.1
  have hg : GoodIn GT (wsM μ) := fun w hw => hk.1 w (List.mem_append_right _ hw)
  refine aw_after (rest := rest.map (cv G.2.1)) (va_runSN (As := As.map (cv G.2.1)) (n := n) (host := host) ⟨hx, hb, hml, hown, hts⟩ hM' ⟨va_cnB n hts hg rfl rfl rfl hnw (hts _ (hk.1 _ (by simp)).1) hk.2.2 hR, hts _ (hk.1 _ (by simp)).1, trivial⟩ ⟨PreM_blind, fun U hU hW => ?_⟩ rfl (by rw [List.length_map]; exact hlen) (hL.1.trans hl) ?_ (lv_room (by rw [catA_cv]; exact hr8)) hd ⟨hc1, hc2⟩) hS (fun r m' H1 locs1 hQ hor hP1 hS1 => ?_)
  · exact aw_pre (args := args) hK hKS hbz hPw hS hU hW
  · show (As.reverse ++ rest).map (cv G.2.1) = _
    rw [List.map_append, List.map_reverse]
  · have k1 := kk r m' hQ hl hol (fun v hv => (List.mem_append.mp hv).elim (hor v) (ho2 v)) p e s mid args below meth co C H1 locs1 la hP1 hS1 hL
    rw [List.map_append] at k1
    exact k1
end
end
section
section
variable {G : GG} {pc np tg : Nat} {lit : Int32} {ls rest : List AV} {m : Mem} {idx : Nat}
theorem AW.mmax {x y : Int32} (hf : G.2.2.2.2.2.1.2.2.2.2.2.lookup pc = some (.invokestatic idx, np, tg, lit)) (hk : GoodIn GT [.methodLink (Rn G.2.2.2.2.2.1.2.2.2.2.1) idx Lib.Math.max.name, .static Lib.Math.max.name, .initialized "java/lang/Math", .code Lib.Math.max.name Lib.Math.max.code 2 (some .int)]) (hR : 1 ≤ G.2.2.1.frames ∧ 60 ≤ G.2.2.1.locals) (hr8 : (rest.map catA).sum ≤ 8)
    (k : AW G np ls (vI (if x < y then y else x) :: rest) m) : AW G pc ls (vI y :: vI x :: rest) m := by
  intro hl hol hos p e s mid args below meth co C H locs la hPw hS hL
  obtain ⟨hx, hb, -, hml, hown, hts, hlk, hK, hKS, hN, hbz, hc1, hc2, hok⟩ := id C
  obtain ⟨hd, hn⟩ := fetch_1 hok hf rfl
  have hn : np = pc + 3 := hn
  subst hn
  have ho := (okl_cons.mp (okl_cons.mp hos).2).2
  exact va_mmax hx hb (hml.trans (hL.1.trans hl).symm) hown (hts _ (hk _ (by simp)).1) (hts _ (hk _ (by simp)).1) (hts _ (hk _ (by simp)).1) (hts _ (hk _ (by simp)).1) hR.1 (by rw [catA_cv]; omega) hc1 hc2 hd (k hl hol (okl_cons.mpr ⟨trivial, ho⟩) p e s mid args below meth co C H locs la hPw hS hL)
theorem AW.mmin {x y : Int32} (hf : G.2.2.2.2.2.1.2.2.2.2.2.lookup pc = some (.invokestatic idx, np, tg, lit)) (hk : GoodIn GT [.methodLink (Rn G.2.2.2.2.2.1.2.2.2.2.1) idx Lib.Math.min.name, .static Lib.Math.min.name, .initialized "java/lang/Math", .code Lib.Math.min.name Lib.Math.min.code 2 (some .int)]) (hR : 1 ≤ G.2.2.1.frames ∧ 60 ≤ G.2.2.1.locals) (hr8 : (rest.map catA).sum ≤ 8)
    (k : AW G np ls (vI (if y < x then y else x) :: rest) m) : AW G pc ls (vI y :: vI x :: rest) m := by
  intro hl hol hos p e s mid args below meth co C H locs la hPw hS hL
  obtain ⟨hx, hb, -, hml, hown, hts, hlk, hK, hKS, hN, hbz, hc1, hc2, hok⟩ := id C
  obtain ⟨hd, hn⟩ := fetch_1 hok hf rfl
  have hn : np = pc + 3 := hn
  subst hn
  have ho := (okl_cons.mp (okl_cons.mp hos).2).2
  exact va_mmin hx hb (hml.trans (hL.1.trans hl).symm) hown (hts _ (hk _ (by simp)).1) (hts _ (hk _ (by simp)).1) (hts _ (hk _ (by simp)).1) (hts _ (hk _ (by simp)).1) hR.1 (by rw [catA_cv]; omega) hc1 hc2 hd (k hl hol (okl_cons.mpr ⟨trivial, ho⟩) p e s mid args below meth co C H locs la hPw hS hL)
theorem AW.acopy {t0 h0 t1 h1 : Nat} {sp dp n : Int32} (hf : G.2.2.2.2.2.1.2.2.2.2.2.lookup pc = some (.invokestatic idx, np, tg, lit)) (hk : GoodIn GT [.methodLink (Rn G.2.2.2.2.2.1.2.2.2.2.1) idx arraycopyName, .native arraycopyName, .static arraycopyName, .initialized "java/lang/System"]) (hR : 1 ≤ G.2.2.1.frames ∧ 60 ≤ G.2.2.1.locals) (hr8 : (rest.map catA).sum ≤ 8)
    (ht0 : 1000 ≤ t0 ∧ t0 < 4000) (ht1 : 1000 ≤ t1 ∧ t1 < 4000) (hs : ¬ sp < 0) (hd0 : ¬ dp < 0) (hn0 : ¬ n < 0) (h4 : sp.toNatClampNeg + n.toNatClampNeg ≤ t0 - 1000) (h5 : dp.toNatClampNeg + n.toNatClampNeg ≤ t1 - 1000)
    (k : AW G np ls rest (mSr m h1 (va_cpy (m h0) (m h1) sp.toNatClampNeg dp.toNatClampNeg n.toNatClampNeg))) : AW G pc ls (vI n :: vI dp :: vR t1 h1 :: vI sp :: vR t0 h0 :: rest) m := by
  intro hl hol hos p e s mid args below meth co C H locs la hPw hS hL
  obtain ⟨hx, hb, -, hml, hown, hts, hlk, hK, hKS, hN, hbz, hc1, hc2, hok⟩ := id C
  obtain ⟨hd, hn⟩ := fetch_1 hok hf rfl
  have hn : np = pc + 3 := hn
  subst hn
  have ho1 := okl_cons.mp (okl_cons.mp (okl_cons.mp hos).2).2
  have ho0 := okl_cons.mp (okl_cons.mp ho1.2).2
  obtain ⟨hh1, hlay1, hao1⟩ := aw_cell ho1.1 (by omega) (isX_gt (by omega))
  obtain ⟨hh0, hlay0, hao0⟩ := aw_cell ho0.1 (by omega) (isX_gt (by omega))
  show W _ _ _ _ _ _ _ _ _ _ _ _ _ _ _ (F0 mid pc la (.int n :: .int dp :: .ref (aof G.2.1 t1 h1) :: .int sp :: .ref (aof G.2.1 t0 h0) :: rest.map (cv G.2.1)))
  rw [hao1, hao0]
  have he0 : (wsOf G.2.1 m)[h0]? = some (xb G.2.1 + h0, .inl (xc G.2.1 0, t0 - 1000, .inl (m h0))) := by rw [ws_get _ _ hh0, cel_i hlay0 ht0.1 ht0.2]
  have he1 : (wsOf G.2.1 m)[h1]? = some (xb G.2.1 + h1, .inl (xc G.2.1 0, t1 - 1000, .inl (m h1))) := by rw [ws_get _ _ hh1, cel_i hlay1 ht1.1 ht1.2]
  have hset : ∀ f : Nat → Int32, (wsOf G.2.1 m).set h1 (xb G.2.1 + h1, .inl (xc G.2.1 0, t1 - 1000, .inl f)) = wsOf G.2.1 (mSr m h1 f) := by
    intro f
    rw [ws_row, cel_i hlay1 ht1.1 ht1.2, mSr_s]
  refine va_copyi hx hb (hml.trans (hL.1.trans hl).symm) hown (hts _ (hk _ (by simp)).1) (hts _ (hk _ (by simp)).1) (hts _ (hk _ (by simp)).1) (hts _ (hk _ (by simp)).1) hK hPw (ws_D _ _) hS h0 h1 0 0 he0 he1 rfl rfl rfl hs hd0 hn0 h4 h5 (fun _ _ => rfl) hR.1 ?_ hd (fun H1 locs1 hP1 hD1 hS1 => ?_)
  · rw [catA_cv]
    have : nativeFrameWords "java/lang/System" "arraycopy" 5 + 11 ≤ 52 := by decide +kernel
    omega
  · rw [hset] at hP1
    exact k hl hol ho0.2 p e s mid args below meth co C H1 locs1 la hP1 hS1 hL
end
end
section
def P_X0_regard : List PE := [(0, .aload_n 2, 1, 0, 0), (1, .invokevirtual 17, 4, 0, 0), (4, .istore 5, 6, 0, 0), (6, .aload_n 0, 7, 0, 0), (7, .getfield 11, 10, 0, 0), (10, .iconst 0, 11, 0, 0), (11, .aload 4, 13, 0, 0), (13, .getfield 23, 16, 0, 0),
  (16, .iastore, 17, 0, 0), (17, .aload_n 0, 18, 0, 0), (18, .getfield 11, 21, 0, 0), (21, .iconst 1, 22, 0, 1), (22, .aload 4, 24, 0, 0), (24, .aload_n 1, 25, 0, 0), (25, .getfield 29, 28, 0, 0), (28, .invokevirtual 34, 31, 0, 0),
  (31, .iastore, 32, 0, 0), (32, .aload_n 0, 33, 0, 0), (33, .getfield 11, 36, 0, 0), (36, .iconst 2, 37, 0, 2), (37, .aload_n 2, 38, 0, 0), (38, .getfield 38, 41, 0, 0), (41, .iastore, 42, 0, 0), (42, .aload_n 0, 43, 0, 0),
  (43, .getfield 11, 46, 0, 0), (46, .iconst 3, 47, 0, 3), (47, .iload 5, 49, 0, 0), (49, .iconst (-1), 50, 0, (-1)), (50, .if_icmp .ne 7, 53, 57, 0), (53, .iconst 0, 54, 0, 0), (54, .goto 10, 57, 64, 0), (57, .aload_n 1, 58, 0, 0),
  (58, .getfield 39, 61, 0, 0), (61, .iload 5, 63, 0, 0), (63, .iaload, 64, 0, 0), (64, .iastore, 65, 0, 0), (65, .aload_n 0, 66, 0, 0), (66, .getfield 11, 69, 0, 0), (69, .iconst 4, 70, 0, 4), (70, .iload_n 3, 71, 0, 0),
  (71, .iastore, 72, 0, 0), (72, .aload_n 0, 73, 0, 0), (73, .getfield 11, 76, 0, 0), (76, .iconst 5, 77, 0, 5), (77, .aload_n 1, 78, 0, 0), (78, .getfield 42, 81, 0, 0), (81, .iload_n 3, 82, 0, 0), (82, .iaload, 83, 0, 0),
  (83, .iastore, 84, 0, 0), (84, .return_, 85, 0, 0)]
abbrev M_X0_regard : MI := (yX0_regard, cX0_regard, 6, none, 0, P_X0_regard)
theorem ok_X0_regard : okP 0 cX0_regard P_X0_regard = true := by decide +kernel
def P_X0_hard : List PE := [(0, .aload_n 3, 1, 0, 0), (1, .iconst 0, 2, 0, 0), (2, .aload_n 0, 3, 0, 0), (3, .getfield 11, 6, 0, 0), (6, .invokevirtual 47, 9, 0, 0), (9, .istore 4, 11, 0, 0), (11, .aload_n 2, 12, 0, 0), (12, .invokevirtual 17, 15, 0, 0),
  (15, .istore 5, 17, 0, 0), (17, .iload 5, 19, 0, 0), (19, .iconst (-1), 20, 0, (-1)), (20, .if_icmp .ne 8, 23, 28, 0), (23, .iload 4, 25, 0, 0), (25, .goto 26, 28, 51, 0), (28, .iconst 0, 29, 0, 0), (29, .aload_n 1, 30, 0, 0),
  (30, .getfield 51, 33, 0, 0), (33, .iload 5, 35, 0, 0), (35, .iaload, 36, 0, 0), (36, .aload_n 1, 37, 0, 0), (37, .getfield 39, 40, 0, 0), (40, .iload 5, 42, 0, 0), (42, .iaload, 43, 0, 0), (43, .iload 4, 45, 0, 0),
  (45, .invokestatic 54, 48, 0, 0), (48, .invokestatic 58, 51, 0, 0), (51, .ireturn, 52, 0, 0)]
abbrev M_X0_hard : MI := (yX0_hard, cX0_hard, 6, (some .int), 0, P_X0_hard)
theorem ok_X0_hard : okP 0 cX0_hard P_X0_hard = true := by decide +kernel
def P_X0_hardBy : List PE := [(0, .iload_n 0, 1, 0, 0), (1, .tableswitch 53 1 5 #[35, 39, 35, 43, 49], 36, 0, 0), (36, .iload_n 2, 37, 0, 0), (37, .iconst 1, 38, 0, 1), (38, .iadd, 39, 0, 0), (39, .ireturn, 40, 0, 0), (40, .iload_n 2, 41, 0, 0), (41, .iconst 2, 42, 0, 2),
  (42, .imul, 43, 0, 0), (43, .ireturn, 44, 0, 0), (44, .iload_n 2, 45, 0, 0), (45, .iconst 2, 46, 0, 2), (46, .imul, 47, 0, 0), (47, .iconst 2, 48, 0, 2), (48, .idiv, 49, 0, 0), (49, .ireturn, 50, 0, 0),
  (50, .iload_n 2, 51, 0, 0), (51, .iload_n 1, 52, 0, 0), (52, .iadd, 53, 0, 0), (53, .ireturn, 54, 0, 0), (54, .iload_n 2, 55, 0, 0), (55, .ireturn, 56, 0, 0)]
abbrev M_X0_hardBy : MI := (yX0_hardBy, cX0_hardBy, 3, (some .int), 0, P_X0_hardBy)
theorem ok_X0_hardBy : okP 0 cX0_hardBy P_X0_hardBy = true := by decide +kernel
def P_X0_worth : List PE := [(0, .aload 4, 2, 0, 0), (2, .invokevirtual 64, 5, 0, 0), (5, .istore 5, 7, 0, 0), (7, .iconst 0, 8, 0, 0), (8, .istore 6, 10, 0, 0), (10, .iconst 0, 11, 0, 0), (11, .istore 7, 13, 0, 0), (13, .iload 7, 15, 0, 0),
  (15, .aload 4, 17, 0, 0), (17, .getfield 69, 20, 0, 0), (20, .if_icmp .ge 85, 23, 105, 0), (23, .aload 4, 25, 0, 0), (25, .getfield 70, 28, 0, 0), (28, .iload 7, 30, 0, 0), (30, .aaload, 31, 0, 0), (31, .invokevirtual 74, 34, 0, 0),
  (34, .ifCond .ne 65, 37, 99, 0), (37, .aload_n 0, 38, 0, 0), (38, .aload_n 1, 39, 0, 0), (39, .aload_n 2, 40, 0, 0), (40, .iload 7, 42, 0, 0), (42, .aload 4, 44, 0, 0), (44, .getfield 70, 47, 0, 0), (47, .iload 7, 49, 0, 0),
  (49, .aaload, 50, 0, 0), (50, .invokevirtual 78, 53, 0, 0), (53, .iload 6, 55, 0, 0), (55, .aload_n 3, 56, 0, 0), (56, .iconst 1, 57, 0, 1), (57, .aload_n 0, 58, 0, 0), (58, .getfield 11, 61, 0, 0), (61, .invokevirtual 47, 64, 0, 0),
  (64, .aload_n 0, 65, 0, 0), (65, .aload_n 1, 66, 0, 0), (66, .aload_n 2, 67, 0, 0), (67, .aload_n 3, 68, 0, 0), (68, .invokevirtual 82, 71, 0, 0), (71, .isub, 72, 0, 0), (72, .iadd, 73, 0, 0), (73, .istore 6, 75, 0, 0),
  (75, .iload 5, 77, 0, 0), (77, .iload 7, 79, 0, 0), (79, .iushr, 80, 0, 0), (80, .iconst 1, 81, 0, 1), (81, .iand, 82, 0, 0), (82, .ifCond .eq 17, 85, 99, 0), (85, .iload 6, 87, 0, 0), (87, .aload_n 3, 88, 0, 0),
  (88, .iconst 2, 89, 0, 2), (89, .aload_n 0, 90, 0, 0), (90, .getfield 11, 93, 0, 0), (93, .invokevirtual 47, 96, 0, 0), (96, .isub, 97, 0, 0), (97, .istore 6, 99, 0, 0), (99, .iinc 7 1, 102, 0, 1), (102, .goto (-89), 105, 13, 0),
  (105, .iload 6, 107, 0, 0), (107, .ireturn, 108, 0, 0)]
abbrev M_X0_worth : MI := (yX0_worth, cX0_worth, 8, (some .int), 0, P_X0_worth)
theorem ok_X0_worth : okP 0 cX0_worth P_X0_worth = true := by decide +kernel
def P_X1_search : List PE := [(0, .aload_n 0, 1, 0, 0), (1, .iconst 1, 2, 0, 1), (2, .putfield 32, 5, 0, 0), (5, .aload_n 0, 6, 0, 0), (6, .getfield 20, 9, 0, 0), (9, .iconst 0, 10, 0, 0), (10, .putfield 36, 13, 0, 0), (13, .aload_n 0, 14, 0, 0),
  (14, .getfield 11, 17, 0, 0), (17, .iconst 0, 18, 0, 0), (18, .aaload, 19, 0, 0), (19, .aload_n 1, 20, 0, 0), (20, .invokevirtual 40, 23, 0, 0), (23, .aload_n 0, 24, 0, 0), (24, .aload_n 1, 25, 0, 0), (25, .aload_n 2, 26, 0, 0),
  (26, .iconst 0, 27, 0, 0), (27, .iconst 0, 28, 0, 0), (28, .iconst 0, 29, 0, 0), (29, .invokevirtual 44, 32, 0, 0), (32, .return_, 33, 0, 0)]
abbrev M_X1_search : MI := (yX1_search, cX1_search, 3, none, 1, P_X1_search)
theorem ok_X1_search : okP 1 cX1_search P_X1_search = true := by decide +kernel
def P_X1_goOn : List PE := [(0, .iload_n 3, 1, 0, 0), (1, .aload_n 1, 2, 0, 0), (2, .getfield 48, 5, 0, 0), (5, .if_icmp .ge 9, 8, 14, 0), (8, .iload_n 3, 9, 0, 0), (9, .bipush 6, 11, 0, 6), (11, .if_icmp .lt 29, 14, 40, 0), (14, .aload_n 0, 15, 0, 0),
  (15, .aload_n 0, 16, 0, 0), (16, .getfield 27, 19, 0, 0), (19, .aload_n 1, 20, 0, 0), (20, .aload_n 0, 21, 0, 0), (21, .getfield 20, 24, 0, 0), (24, .aload_n 2, 25, 0, 0), (25, .aload_n 0, 26, 0, 0), (26, .getfield 11, 29, 0, 0),
  (29, .iload_n 3, 30, 0, 0), (30, .aaload, 31, 0, 0), (31, .invokevirtual 53, 34, 0, 0), (34, .iload 5, 36, 0, 0), (36, .invokevirtual 57, 39, 0, 0), (39, .return_, 40, 0, 0), (40, .iconst 0, 41, 0, 0), (41, .istore 6, 43, 0, 0),
  (43, .iload 6, 45, 0, 0), (45, .aload_n 1, 46, 0, 0), (46, .getfield 48, 49, 0, 0), (49, .if_icmp .ge 82, 52, 131, 0), (52, .iload 4, 54, 0, 0), (54, .iload 6, 56, 0, 0), (56, .iushr, 57, 0, 0), (57, .iconst 1, 58, 0, 1),
  (58, .iand, 59, 0, 0), (59, .ifCond .ne 66, 62, 125, 0), (62, .aload_n 0, 63, 0, 0), (63, .getfield 20, 66, 0, 0), (66, .iload_n 3, 67, 0, 0), (67, .putfield 36, 70, 0, 0), (70, .aload_n 0, 71, 0, 0), (71, .getfield 20, 74, 0, 0),
  (74, .iload 6, 76, 0, 0), (76, .invokevirtual 61, 79, 0, 0), (79, .aload_n 0, 80, 0, 0), (80, .getfield 11, 83, 0, 0), (83, .iload_n 3, 84, 0, 0), (84, .iconst 1, 85, 0, 1), (85, .iadd, 86, 0, 0), (86, .aaload, 87, 0, 0),
  (87, .aload_n 0, 88, 0, 0), (88, .getfield 11, 91, 0, 0), (91, .iload_n 3, 92, 0, 0), (92, .aaload, 93, 0, 0), (93, .aload_n 1, 94, 0, 0), (94, .iload 6, 96, 0, 0), (96, .invokevirtual 65, 99, 0, 0), (99, .aload_n 0, 100, 0, 0),
  (100, .aload_n 1, 101, 0, 0), (101, .aload_n 2, 102, 0, 0), (102, .iload_n 3, 103, 0, 0), (103, .iconst 1, 104, 0, 1), (104, .iadd, 105, 0, 0), (105, .iload 4, 107, 0, 0), (107, .iconst 1, 108, 0, 1), (108, .iload 6, 110, 0, 0),
  (110, .ishl, 111, 0, 0), (111, .ior, 112, 0, 0), (112, .iload 5, 114, 0, 0), (114, .bipush 10, 116, 0, 10), (116, .imul, 117, 0, 0), (117, .iload 6, 119, 0, 0), (119, .iadd, 120, 0, 0), (120, .iconst 1, 121, 0, 1),
  (121, .iadd, 122, 0, 0), (122, .invokevirtual 44, 125, 0, 0), (125, .iinc 6 1, 128, 0, 1), (128, .goto (-85), 131, 43, 0), (131, .return_, 132, 0, 0)]
abbrev M_X1_goOn : MI := (yX1_goOn, cX1_goOn, 7, none, 1, P_X1_goOn)
theorem ok_X1_goOn : okP 1 cX1_goOn P_X1_goOn = true := by decide +kernel
def P_X1_keepBetter : List PE := [(0, .aload_n 0, 1, 0, 0), (1, .getfield 32, 4, 0, 0), (4, .ifCond .ne 11, 7, 15, 0), (7, .iload_n 1, 8, 0, 0), (8, .aload_n 0, 9, 0, 0), (9, .getfield 69, 12, 0, 0), (12, .if_icmp .le 18, 15, 30, 0), (15, .aload_n 0, 16, 0, 0),
  (16, .iconst 0, 17, 0, 0), (17, .putfield 32, 20, 0, 0), (20, .aload_n 0, 21, 0, 0), (21, .iload_n 1, 22, 0, 0), (22, .putfield 69, 25, 0, 0), (25, .aload_n 0, 26, 0, 0), (26, .iload_n 2, 27, 0, 0), (27, .putfield 72, 30, 0, 0),
  (30, .return_, 31, 0, 0)]
abbrev M_X1_keepBetter : MI := (yX1_keepBetter, cX1_keepBetter, 3, none, 1, P_X1_keepBetter)
theorem ok_X1_keepBetter : okP 1 cX1_keepBetter P_X1_keepBetter = true := by decide +kernel
def P_X2_read : List PE := [(0, .aload_n 0, 1, 0, 0), (1, .aload_n 1, 2, 0, 0), (2, .putfield 9, 5, 0, 0), (5, .aload_n 0, 6, 0, 0), (6, .aload_n 2, 7, 0, 0), (7, .putfield 15, 10, 0, 0), (10, .aload_n 0, 11, 0, 0), (11, .iconst 0, 12, 0, 0),
  (12, .putfield 19, 15, 0, 0), (15, .aload_n 0, 16, 0, 0), (16, .iconst 0, 17, 0, 0), (17, .putfield 23, 20, 0, 0), (20, .aload_n 1, 21, 0, 0), (21, .invokevirtual 26, 24, 0, 0), (24, .aload_n 2, 25, 0, 0), (25, .invokevirtual 31, 28, 0, 0),
  (28, .aload_n 0, 29, 0, 0), (29, .iconst 4, 30, 0, 4), (30, .iconst 0, 31, 0, 0), (31, .invokevirtual 36, 34, 0, 0), (34, .ifCond .eq 33, 37, 67, 0), (37, .aload_n 0, 38, 0, 0), (38, .iconst 5, 39, 0, 5), (39, .iconst 1, 40, 0, 1),
  (40, .invokevirtual 36, 43, 0, 0), (43, .ifCond .eq 24, 46, 67, 0), (46, .aload_n 0, 47, 0, 0), (47, .bipush 6, 49, 0, 6), (49, .iconst 2, 50, 0, 2), (50, .invokevirtual 36, 53, 0, 0), (53, .ifCond .eq 14, 56, 67, 0), (56, .aload_n 0, 57, 0, 0),
  (57, .invokevirtual 40, 60, 0, 0), (60, .ifCond .ne 7, 63, 67, 0), (63, .iconst 1, 64, 0, 1), (64, .goto 4, 67, 68, 0), (67, .iconst 0, 68, 0, 0), (68, .istore_n 3, 69, 0, 0), (69, .iload_n 3, 70, 0, 0), (70, .ifCond .eq 7, 73, 77, 0),
  (73, .iconst (-1), 74, 0, (-1)), (74, .goto 7, 77, 81, 0), (77, .aload_n 0, 78, 0, 0), (78, .invokevirtual 44, 81, 0, 0), (81, .ireturn, 82, 0, 0)]
abbrev M_X2_read : MI := (yX2_read, cX2_read, 4, (some .int), 2, P_X2_read)
theorem ok_X2_read : okP 2 cX2_read P_X2_read = true := by decide +kernel
def P_X2_next : List PE := [(0, .aload_n 0, 1, 0, 0), (1, .getfield 19, 4, 0, 0), (4, .aload_n 0, 5, 0, 0), (5, .getfield 9, 8, 0, 0), (8, .getfield 47, 11, 0, 0), (11, .if_icmp .ge 18, 14, 29, 0), (14, .aload_n 0, 15, 0, 0), (15, .getfield 9, 18, 0, 0),
  (18, .getfield 50, 21, 0, 0), (21, .aload_n 0, 22, 0, 0), (22, .getfield 19, 25, 0, 0), (25, .iaload, 26, 0, 0), (26, .goto 4, 29, 30, 0), (29, .iconst 0, 30, 0, 0), (30, .ireturn, 31, 0, 0)]
abbrev M_X2_next : MI := (yX2_next, cX2_next, 1, (some .int), 2, P_X2_next)
theorem ok_X2_next : okP 2 cX2_next P_X2_next = true := by decide +kernel
def P_X2_place : List PE := [(0, .aload_n 0, 1, 0, 0), (1, .getfield 19, 4, 0, 0), (4, .aload_n 0, 5, 0, 0), (5, .getfield 9, 8, 0, 0), (8, .getfield 47, 11, 0, 0), (11, .if_icmp .ge 18, 14, 29, 0), (14, .aload_n 0, 15, 0, 0), (15, .getfield 9, 18, 0, 0),
  (18, .getfield 54, 21, 0, 0), (21, .aload_n 0, 22, 0, 0), (22, .getfield 19, 25, 0, 0), (25, .iaload, 26, 0, 0), (26, .goto 10, 29, 36, 0), (29, .aload_n 0, 30, 0, 0), (30, .getfield 9, 33, 0, 0), (33, .getfield 57, 36, 0, 0),
  (36, .ireturn, 37, 0, 0)]
abbrev M_X2_place : MI := (yX2_place, cX2_place, 1, (some .int), 2, P_X2_place)
theorem ok_X2_place : okP 2 cX2_place P_X2_place = true := by decide +kernel
def P_X2_take : List PE := [(0, .aload_n 0, 1, 0, 0), (1, .invokevirtual 40, 4, 0, 0), (4, .iload_n 1, 5, 0, 0), (5, .if_icmp .eq 5, 8, 10, 0), (8, .iconst 0, 9, 0, 0), (9, .ireturn, 10, 0, 0), (10, .aload_n 0, 11, 0, 0), (11, .dup, 12, 0, 0),
  (12, .getfield 19, 15, 0, 0), (15, .iconst 1, 16, 0, 1), (16, .iadd, 17, 0, 0), (17, .putfield 19, 20, 0, 0), (20, .iconst 1, 21, 0, 1), (21, .ireturn, 22, 0, 0)]
abbrev M_X2_take : MI := (yX2_take, cX2_take, 2, (some .boolean), 2, P_X2_take)
theorem ok_X2_take : okP 2 cX2_take P_X2_take = true := by decide +kernel
def P_X2_takeOpening : List PE := [(0, .aload_n 0, 1, 0, 0), (1, .getfield 23, 4, 0, 0), (4, .iconst 5, 5, 0, 5), (5, .if_icmp .lt 5, 8, 10, 0), (8, .iconst 0, 9, 0, 0), (9, .ireturn, 10, 0, 0), (10, .aload_n 0, 11, 0, 0), (11, .dup, 12, 0, 0),
  (12, .getfield 23, 15, 0, 0), (15, .iconst 1, 16, 0, 1), (16, .iadd, 17, 0, 0), (17, .putfield 23, 20, 0, 0), (20, .aload_n 0, 21, 0, 0), (21, .dup, 22, 0, 0), (22, .getfield 19, 25, 0, 0), (25, .iconst 1, 26, 0, 1),
  (26, .iadd, 27, 0, 0), (27, .putfield 19, 30, 0, 0), (30, .iconst 1, 31, 0, 1), (31, .ireturn, 32, 0, 0)]
abbrev M_X2_takeOpening : MI := (yX2_takeOpening, cX2_takeOpening, 1, (some .boolean), 2, P_X2_takeOpening)
theorem ok_X2_takeOpening : okP 2 cX2_takeOpening P_X2_takeOpening = true := by decide +kernel
def P_X2_readPart : List PE := [(0, .aload_n 0, 1, 0, 0), (1, .iload_n 1, 2, 0, 0), (2, .invokevirtual 60, 5, 0, 0), (5, .ifCond .eq 20, 8, 25, 0), (8, .aload_n 0, 9, 0, 0), (9, .invokevirtual 64, 12, 0, 0), (12, .iconst (-1), 13, 0, (-1)), (13, .if_icmp .eq 12, 16, 25, 0),
  (16, .aload_n 0, 17, 0, 0), (17, .bipush 59, 19, 0, 59), (19, .invokevirtual 60, 22, 0, 0), (22, .ifCond .ne 5, 25, 27, 0), (25, .iconst 0, 26, 0, 0), (26, .ireturn, 27, 0, 0), (27, .aload_n 0, 28, 0, 0), (28, .getfield 15, 31, 0, 0),
  (31, .iload_n 2, 32, 0, 0), (32, .invokevirtual 67, 35, 0, 0), (35, .iconst 1, 36, 0, 1), (36, .ireturn, 37, 0, 0)]
abbrev M_X2_readPart : MI := (yX2_readPart, cX2_readPart, 3, (some .boolean), 2, P_X2_readPart)
theorem ok_X2_readPart : okP 2 cX2_readPart P_X2_readPart = true := by decide +kernel
def P_X2_joined : List PE := [(0, .iload_n 3, 1, 0, 0), (1, .iconst (-1), 2, 0, (-1)), (2, .if_icmp .ne 7, 5, 9, 0), (5, .iconst (-1), 6, 0, (-1)), (6, .goto 13, 9, 19, 0), (9, .aload_n 0, 10, 0, 0), (10, .getfield 15, 13, 0, 0), (13, .iload_n 1, 14, 0, 0),
  (14, .iload_n 2, 15, 0, 0), (15, .iload_n 3, 16, 0, 0), (16, .invokevirtual 71, 19, 0, 0), (19, .ireturn, 20, 0, 0)]
abbrev M_X2_joined : MI := (yX2_joined, cX2_joined, 4, (some .int), 2, P_X2_joined)
theorem ok_X2_joined : okP 2 cX2_joined P_X2_joined = true := by decide +kernel
def P_X2_readE : List PE := [(0, .aload_n 0, 1, 0, 0), (1, .invokevirtual 75, 4, 0, 0), (4, .istore_n 1, 5, 0, 0), (5, .iconst 0, 6, 0, 0), (6, .istore_n 2, 7, 0, 0), (7, .iload_n 2, 8, 0, 0), (8, .sipush 160, 11, 0, 160), (11, .if_icmp .ge 34, 14, 45, 0),
  (14, .iload_n 1, 15, 0, 0), (15, .iconst (-1), 16, 0, (-1)), (16, .if_icmp .eq 29, 19, 45, 0), (19, .aload_n 0, 20, 0, 0), (20, .bipush 7, 22, 0, 7), (22, .invokevirtual 60, 25, 0, 0), (25, .ifCond .eq 20, 28, 45, 0), (28, .aload_n 0, 29, 0, 0),
  (29, .iconst 2, 30, 0, 2), (30, .iload_n 1, 31, 0, 0), (31, .aload_n 0, 32, 0, 0), (32, .invokevirtual 75, 35, 0, 0), (35, .invokevirtual 78, 38, 0, 0), (38, .istore_n 1, 39, 0, 0), (39, .iinc 2 1, 42, 0, 1), (42, .goto (-35), 45, 7, 0),
  (45, .iload_n 1, 46, 0, 0), (46, .ireturn, 47, 0, 0)]
abbrev M_X2_readE : MI := (yX2_readE, cX2_readE, 3, (some .int), 2, P_X2_readE)
theorem ok_X2_readE : okP 2 cX2_readE P_X2_readE = true := by decide +kernel
def P_X2_readAnd : List PE := [(0, .aload_n 0, 1, 0, 0), (1, .invokevirtual 81, 4, 0, 0), (4, .istore_n 1, 5, 0, 0), (5, .iconst 0, 6, 0, 0), (6, .istore_n 2, 7, 0, 0), (7, .iload_n 2, 8, 0, 0), (8, .sipush 160, 11, 0, 160), (11, .if_icmp .ge 34, 14, 45, 0),
  (14, .iload_n 1, 15, 0, 0), (15, .iconst (-1), 16, 0, (-1)), (16, .if_icmp .eq 29, 19, 45, 0), (19, .aload_n 0, 20, 0, 0), (20, .bipush 8, 22, 0, 8), (22, .invokevirtual 60, 25, 0, 0), (25, .ifCond .eq 20, 28, 45, 0), (28, .aload_n 0, 29, 0, 0),
  (29, .iconst 3, 30, 0, 3), (30, .iload_n 1, 31, 0, 0), (31, .aload_n 0, 32, 0, 0), (32, .invokevirtual 81, 35, 0, 0), (35, .invokevirtual 78, 38, 0, 0), (38, .istore_n 1, 39, 0, 0), (39, .iinc 2 1, 42, 0, 1), (42, .goto (-35), 45, 7, 0),
  (45, .iload_n 1, 46, 0, 0), (46, .ireturn, 47, 0, 0)]
abbrev M_X2_readAnd : MI := (yX2_readAnd, cX2_readAnd, 3, (some .int), 2, P_X2_readAnd)
theorem ok_X2_readAnd : okP 2 cX2_readAnd P_X2_readAnd = true := by decide +kernel
def P_X2_readNot : List PE := [(0, .aload_n 0, 1, 0, 0), (1, .invokevirtual 40, 4, 0, 0), (4, .bipush 9, 6, 0, 9), (6, .if_icmp .eq 8, 9, 14, 0), (9, .aload_n 0, 10, 0, 0), (10, .invokevirtual 84, 13, 0, 0), (13, .ireturn, 14, 0, 0), (14, .aload_n 0, 15, 0, 0),
  (15, .invokevirtual 87, 18, 0, 0), (18, .ifCond .eq 15, 21, 33, 0), (21, .aload_n 0, 22, 0, 0), (22, .iconst 4, 23, 0, 4), (23, .aload_n 0, 24, 0, 0), (24, .invokevirtual 81, 27, 0, 0), (27, .invokevirtual 91, 30, 0, 0), (30, .goto 4, 33, 34, 0),
  (33, .iconst (-1), 34, 0, (-1)), (34, .ireturn, 35, 0, 0)]
abbrev M_X2_readNot : MI := (yX2_readNot, cX2_readNot, 1, (some .int), 2, P_X2_readNot)
theorem ok_X2_readNot : okP 2 cX2_readNot P_X2_readNot = true := by decide +kernel
def P_X2_readComparison : List PE := [(0, .aload_n 0, 1, 0, 0), (1, .invokevirtual 95, 4, 0, 0), (4, .istore_n 1, 5, 0, 0), (5, .iload_n 1, 6, 0, 0), (6, .iconst (-1), 7, 0, (-1)), (7, .if_icmp .eq 23, 10, 30, 0), (10, .aload_n 0, 11, 0, 0), (11, .bipush 60, 13, 0, 60),
  (13, .invokevirtual 60, 16, 0, 0), (16, .ifCond .eq 14, 19, 30, 0), (19, .aload_n 0, 20, 0, 0), (20, .iconst 5, 21, 0, 5), (21, .iload_n 1, 22, 0, 0), (22, .aload_n 0, 23, 0, 0), (23, .invokevirtual 95, 26, 0, 0), (26, .invokevirtual 78, 29, 0, 0),
  (29, .ireturn, 30, 0, 0), (30, .iload_n 1, 31, 0, 0), (31, .iconst (-1), 32, 0, (-1)), (32, .if_icmp .eq 24, 35, 56, 0), (35, .aload_n 0, 36, 0, 0), (36, .bipush 61, 38, 0, 61), (38, .invokevirtual 60, 41, 0, 0), (41, .ifCond .eq 15, 44, 56, 0),
  (44, .aload_n 0, 45, 0, 0), (45, .bipush 6, 47, 0, 6), (47, .iload_n 1, 48, 0, 0), (48, .aload_n 0, 49, 0, 0), (49, .invokevirtual 95, 52, 0, 0), (52, .invokevirtual 78, 55, 0, 0), (55, .ireturn, 56, 0, 0), (56, .iload_n 1, 57, 0, 0),
  (57, .ireturn, 58, 0, 0)]
abbrev M_X2_readComparison : MI := (yX2_readComparison, cX2_readComparison, 2, (some .int), 2, P_X2_readComparison)
theorem ok_X2_readComparison : okP 2 cX2_readComparison P_X2_readComparison = true := by decide +kernel
def P_X2_readSum : List PE := [(0, .aload_n 0, 1, 0, 0), (1, .invokevirtual 98, 4, 0, 0), (4, .istore_n 1, 5, 0, 0), (5, .iconst 0, 6, 0, 0), (6, .istore_n 2, 7, 0, 0), (7, .iload_n 2, 8, 0, 0), (8, .sipush 160, 11, 0, 160), (11, .if_icmp .ge 70, 14, 81, 0),
  (14, .iload_n 1, 15, 0, 0), (15, .iconst (-1), 16, 0, (-1)), (16, .if_icmp .eq 65, 19, 81, 0), (19, .aload_n 0, 20, 0, 0), (20, .invokevirtual 40, 23, 0, 0), (23, .bipush 43, 25, 0, 43), (25, .if_icmp .eq 12, 28, 37, 0), (28, .aload_n 0, 29, 0, 0),
  (29, .invokevirtual 40, 32, 0, 0), (32, .bipush 45, 34, 0, 45), (34, .if_icmp .ne 47, 37, 81, 0), (37, .aload_n 0, 38, 0, 0), (38, .invokevirtual 40, 41, 0, 0), (41, .bipush 43, 43, 0, 43), (43, .if_icmp .ne 8, 46, 51, 0), (46, .bipush 7, 48, 0, 7),
  (48, .goto 5, 51, 53, 0), (51, .bipush 8, 53, 0, 8), (53, .istore_n 3, 54, 0, 0), (54, .aload_n 0, 55, 0, 0), (55, .dup, 56, 0, 0), (56, .getfield 19, 59, 0, 0), (59, .iconst 1, 60, 0, 1), (60, .iadd, 61, 0, 0),
  (61, .putfield 19, 64, 0, 0), (64, .aload_n 0, 65, 0, 0), (65, .iload_n 3, 66, 0, 0), (66, .iload_n 1, 67, 0, 0), (67, .aload_n 0, 68, 0, 0), (68, .invokevirtual 98, 71, 0, 0), (71, .invokevirtual 78, 74, 0, 0), (74, .istore_n 1, 75, 0, 0),
  (75, .iinc 2 1, 78, 0, 1), (78, .goto (-71), 81, 7, 0), (81, .iload_n 1, 82, 0, 0), (82, .ireturn, 83, 0, 0)]
abbrev M_X2_readSum : MI := (yX2_readSum, cX2_readSum, 4, (some .int), 2, P_X2_readSum)
theorem ok_X2_readSum : okP 2 cX2_readSum P_X2_readSum = true := by decide +kernel
def P_X2_readTerm : List PE := [(0, .aload_n 0, 1, 0, 0), (1, .invokevirtual 101, 4, 0, 0), (4, .istore_n 1, 5, 0, 0), (5, .iconst 0, 6, 0, 0), (6, .istore_n 2, 7, 0, 0), (7, .iload_n 2, 8, 0, 0), (8, .sipush 160, 11, 0, 160), (11, .if_icmp .ge 35, 14, 46, 0),
  (14, .iload_n 1, 15, 0, 0), (15, .iconst (-1), 16, 0, (-1)), (16, .if_icmp .eq 30, 19, 46, 0), (19, .aload_n 0, 20, 0, 0), (20, .bipush 42, 22, 0, 42), (22, .invokevirtual 60, 25, 0, 0), (25, .ifCond .eq 21, 28, 46, 0), (28, .aload_n 0, 29, 0, 0),
  (29, .bipush 9, 31, 0, 9), (31, .iload_n 1, 32, 0, 0), (32, .aload_n 0, 33, 0, 0), (33, .invokevirtual 101, 36, 0, 0), (36, .invokevirtual 78, 39, 0, 0), (39, .istore_n 1, 40, 0, 0), (40, .iinc 2 1, 43, 0, 1), (43, .goto (-36), 46, 7, 0),
  (46, .iload_n 1, 47, 0, 0), (47, .ireturn, 48, 0, 0)]
abbrev M_X2_readTerm : MI := (yX2_readTerm, cX2_readTerm, 3, (some .int), 2, P_X2_readTerm)
theorem ok_X2_readTerm : okP 2 cX2_readTerm P_X2_readTerm = true := by decide +kernel
def P_X2_readOne : List PE := [(0, .aload_n 0, 1, 0, 0), (1, .invokevirtual 40, 4, 0, 0), (4, .lookupswitch 94 #[(2, 44), (3, 50), (40, 78), (45, 56)], 48, 0, 0), (48, .aload_n 0, 49, 0, 0), (49, .iconst 0, 50, 0, 0), (50, .invokevirtual 104, 53, 0, 0), (53, .ireturn, 54, 0, 0), (54, .aload_n 0, 55, 0, 0),
  (55, .iconst 1, 56, 0, 1), (56, .invokevirtual 104, 59, 0, 0), (59, .ireturn, 60, 0, 0), (60, .aload_n 0, 61, 0, 0), (61, .invokevirtual 87, 64, 0, 0), (64, .ifCond .eq 16, 67, 80, 0), (67, .aload_n 0, 68, 0, 0), (68, .bipush 10, 70, 0, 10),
  (70, .aload_n 0, 71, 0, 0), (71, .invokevirtual 101, 74, 0, 0), (74, .invokevirtual 91, 77, 0, 0), (77, .goto 4, 80, 81, 0), (80, .iconst (-1), 81, 0, (-1)), (81, .ireturn, 82, 0, 0), (82, .aload_n 0, 83, 0, 0), (83, .invokevirtual 87, 86, 0, 0),
  (86, .ifCond .eq 10, 89, 96, 0), (89, .aload_n 0, 90, 0, 0), (90, .invokevirtual 108, 93, 0, 0), (93, .goto 4, 96, 97, 0), (96, .iconst (-1), 97, 0, (-1)), (97, .ireturn, 98, 0, 0), (98, .iconst (-1), 99, 0, (-1)), (99, .ireturn, 100, 0, 0)]
abbrev M_X2_readOne : MI := (yX2_readOne, cX2_readOne, 1, (some .int), 2, P_X2_readOne)
theorem ok_X2_readOne : okP 2 cX2_readOne P_X2_readOne = true := by decide +kernel
def P_X2_readValue : List PE := [(0, .aload_n 0, 1, 0, 0), (1, .getfield 9, 4, 0, 0), (4, .getfield 111, 7, 0, 0), (7, .aload_n 0, 8, 0, 0), (8, .getfield 19, 11, 0, 0), (11, .iaload, 12, 0, 0), (12, .istore_n 2, 13, 0, 0), (13, .aload_n 0, 14, 0, 0),
  (14, .dup, 15, 0, 0), (15, .getfield 19, 18, 0, 0), (18, .iconst 1, 19, 0, 1), (19, .iadd, 20, 0, 0), (20, .putfield 19, 23, 0, 0), (23, .aload_n 0, 24, 0, 0), (24, .getfield 15, 27, 0, 0), (27, .iload_n 1, 28, 0, 0),
  (28, .iload_n 2, 29, 0, 0), (29, .iconst 0, 30, 0, 0), (30, .invokevirtual 71, 33, 0, 0), (33, .ireturn, 34, 0, 0)]
abbrev M_X2_readValue : MI := (yX2_readValue, cX2_readValue, 3, (some .int), 2, P_X2_readValue)
theorem ok_X2_readValue : okP 2 cX2_readValue P_X2_readValue = true := by decide +kernel
def P_X2_closed : List PE := [(0, .aload_n 0, 1, 0, 0), (1, .dup, 2, 0, 0), (2, .getfield 23, 5, 0, 0), (5, .iconst 1, 6, 0, 1), (6, .isub, 7, 0, 0), (7, .putfield 23, 10, 0, 0), (10, .iload_n 2, 11, 0, 0), (11, .iconst (-1), 12, 0, (-1)),
  (12, .if_icmp .ne 7, 15, 19, 0), (15, .iconst (-1), 16, 0, (-1)), (16, .goto 13, 19, 29, 0), (19, .aload_n 0, 20, 0, 0), (20, .getfield 15, 23, 0, 0), (23, .iload_n 1, 24, 0, 0), (24, .iload_n 2, 25, 0, 0), (25, .iconst 0, 26, 0, 0),
  (26, .invokevirtual 71, 29, 0, 0), (29, .ireturn, 30, 0, 0)]
abbrev M_X2_closed : MI := (yX2_closed, cX2_closed, 3, (some .int), 2, P_X2_closed)
theorem ok_X2_closed : okP 2 cX2_closed P_X2_closed = true := by decide +kernel
def P_X2_readToClosing : List PE := [(0, .aload_n 0, 1, 0, 0), (1, .invokevirtual 64, 4, 0, 0), (4, .istore_n 1, 5, 0, 0), (5, .iload_n 1, 6, 0, 0), (6, .iconst (-1), 7, 0, (-1)), (7, .if_icmp .eq 12, 10, 19, 0), (10, .aload_n 0, 11, 0, 0), (11, .bipush 41, 13, 0, 41),
  (13, .invokevirtual 60, 16, 0, 0), (16, .ifCond .ne 5, 19, 21, 0), (19, .iconst (-1), 20, 0, (-1)), (20, .ireturn, 21, 0, 0), (21, .aload_n 0, 22, 0, 0), (22, .dup, 23, 0, 0), (23, .getfield 23, 26, 0, 0), (26, .iconst 1, 27, 0, 1),
  (27, .isub, 28, 0, 0), (28, .putfield 23, 31, 0, 0), (31, .iload_n 1, 32, 0, 0), (32, .ireturn, 33, 0, 0)]
abbrev M_X2_readToClosing : MI := (yX2_readToClosing, cX2_readToClosing, 2, (some .int), 2, P_X2_readToClosing)
theorem ok_X2_readToClosing : okP 2 cX2_readToClosing P_X2_readToClosing = true := by decide +kernel
def P_X3_push : List PE := [(0, .aload_n 0, 1, 0, 0), (1, .getfield 15, 4, 0, 0), (4, .bipush 8, 6, 0, 8), (6, .if_icmp .ge 23, 9, 29, 0), (9, .aload_n 0, 10, 0, 0), (10, .getfield 9, 13, 0, 0), (13, .aload_n 0, 14, 0, 0), (14, .getfield 15, 17, 0, 0),
  (17, .iload_n 1, 18, 0, 0), (18, .iastore, 19, 0, 0), (19, .aload_n 0, 20, 0, 0), (20, .dup, 21, 0, 0), (21, .getfield 15, 24, 0, 0), (24, .iconst 1, 25, 0, 1), (25, .iadd, 26, 0, 0), (26, .putfield 15, 29, 0, 0),
  (29, .return_, 30, 0, 0)]
abbrev M_X3_push : MI := (yX3_push, cX3_push, 2, none, 3, P_X3_push)
theorem ok_X3_push : okP 3 cX3_push P_X3_push = true := by decide +kernel
def P_X3_last : List PE := [(0, .aload_n 0, 1, 0, 0), (1, .getfield 15, 4, 0, 0), (4, .ifCond .le 17, 7, 21, 0), (7, .aload_n 0, 8, 0, 0), (8, .getfield 9, 11, 0, 0), (11, .aload_n 0, 12, 0, 0), (12, .getfield 15, 15, 0, 0), (15, .iconst 1, 16, 0, 1),
  (16, .isub, 17, 0, 0), (17, .iaload, 18, 0, 0), (18, .goto 4, 21, 22, 0), (21, .iconst (-1), 22, 0, (-1)), (22, .ireturn, 23, 0, 0)]
abbrev M_X3_last : MI := (yX3_last, cX3_last, 1, (some .int), 3, P_X3_last)
theorem ok_X3_last : okP 3 cX3_last P_X3_last = true := by decide +kernel
def P_X3_become : List PE := [(0, .aload_n 1, 1, 0, 0), (1, .getfield 9, 4, 0, 0), (4, .iconst 0, 5, 0, 0), (5, .aload_n 0, 6, 0, 0), (6, .getfield 9, 9, 0, 0), (9, .iconst 0, 10, 0, 0), (10, .bipush 8, 12, 0, 8), (12, .invokestatic 19, 15, 0, 0),
  (15, .aload_n 0, 16, 0, 0), (16, .aload_n 1, 17, 0, 0), (17, .getfield 15, 20, 0, 0), (20, .putfield 15, 23, 0, 0), (23, .return_, 24, 0, 0)]
abbrev M_X3_become : MI := (yX3_become, cX3_become, 2, none, 3, P_X3_become)
theorem ok_X3_become : okP 3 cX3_become P_X3_become = true := by decide +kernel
def P_X3_becomeWithout : List PE := [(0, .aload_n 0, 1, 0, 0), (1, .iconst 0, 2, 0, 0), (2, .putfield 15, 5, 0, 0), (5, .iconst 0, 6, 0, 0), (6, .istore_n 3, 7, 0, 0), (7, .iload_n 3, 8, 0, 0), (8, .aload_n 1, 9, 0, 0), (9, .getfield 15, 12, 0, 0),
  (12, .if_icmp .ge 24, 15, 36, 0), (15, .iload_n 3, 16, 0, 0), (16, .iload_n 2, 17, 0, 0), (17, .if_icmp .eq 13, 20, 30, 0), (20, .aload_n 0, 21, 0, 0), (21, .aload_n 1, 22, 0, 0), (22, .getfield 9, 25, 0, 0), (25, .iload_n 3, 26, 0, 0),
  (26, .iaload, 27, 0, 0), (27, .invokevirtual 25, 30, 0, 0), (30, .iinc 3 1, 33, 0, 1), (33, .goto (-26), 36, 7, 0), (36, .return_, 37, 0, 0)]
abbrev M_X3_becomeWithout : MI := (yX3_becomeWithout, cX3_becomeWithout, 4, none, 3, P_X3_becomeWithout)
theorem ok_X3_becomeWithout : okP 3 cX3_becomeWithout P_X3_becomeWithout = true := by decide +kernel
def P_X3_draw : List PE := [(0, .aload_n 0, 1, 0, 0), (1, .iconst 0, 2, 0, 0), (2, .putfield 15, 5, 0, 0), (5, .iload_n 2, 6, 0, 0), (6, .ifCond .gt 4, 9, 10, 0), (9, .return_, 10, 0, 0), (10, .iload_n 1, 11, 0, 0), (11, .invokestatic 29, 14, 0, 0),
  (14, .istore_n 3, 15, 0, 0), (15, .iload_n 3, 16, 0, 0), (16, .bipush 9, 18, 0, 9), (18, .iushr, 19, 0, 0), (19, .iconst 4, 20, 0, 4), (20, .irem, 21, 0, 0), (21, .iconst 1, 22, 0, 1), (22, .iadd, 23, 0, 0),
  (23, .istore 4, 25, 0, 0), (25, .iconst 0, 26, 0, 0), (26, .istore 5, 28, 0, 0), (28, .iload 5, 30, 0, 0), (30, .iload 4, 32, 0, 0), (32, .if_icmp .ge 24, 35, 56, 0), (35, .iload_n 3, 36, 0, 0), (36, .invokestatic 29, 39, 0, 0),
  (39, .istore_n 3, 40, 0, 0), (40, .aload_n 0, 41, 0, 0), (41, .iload_n 3, 42, 0, 0), (42, .bipush 9, 44, 0, 9), (44, .iushr, 45, 0, 0), (45, .iload_n 2, 46, 0, 0), (46, .irem, 47, 0, 0), (47, .invokevirtual 25, 50, 0, 0),
  (50, .iinc 5 1, 53, 0, 1), (53, .goto (-25), 56, 28, 0), (56, .return_, 57, 0, 0)]
abbrev M_X3_draw : MI := (yX3_draw, cX3_draw, 6, none, 3, P_X3_draw)
theorem ok_X3_draw : okP 3 cX3_draw P_X3_draw = true := by decide +kernel
def P_X3_following : List PE := [(0, .iload_n 0, 1, 0, 0), (1, .ldc 33, 3, 999, 1103515245), (3, .imul, 4, 0, 0), (4, .sipush 12345, 7, 0, 12345), (7, .iadd, 8, 0, 0), (8, .ireturn, 9, 0, 0)]
abbrev M_X3_following : MI := (yX3_following, cX3_following, 1, (some .int), 3, P_X3_following)
theorem ok_X3_following : okP 3 cX3_following P_X3_following = true := by decide +kernel
def P_X4_isTooLong : List PE := [(0, .aload_n 0, 1, 0, 0), (1, .getfield 15, 4, 0, 0), (4, .iconst (-1), 5, 0, (-1)), (5, .if_icmp .ne 7, 8, 12, 0), (8, .iconst 1, 9, 0, 1), (9, .goto 4, 12, 13, 0), (12, .iconst 0, 13, 0, 0), (13, .ireturn, 14, 0, 0)]
abbrev M_X4_isTooLong : MI := (yX4_isTooLong, cX4_isTooLong, 1, (some .boolean), 4, P_X4_isTooLong)
theorem ok_X4_isTooLong : okP 4 cX4_isTooLong P_X4_isTooLong = true := by decide +kernel
def P_X4_begin : List PE := [(0, .aload_n 0, 1, 0, 0), (1, .aload_n 1, 2, 0, 0), (2, .getfield 19, 5, 0, 0), (5, .iload_n 2, 6, 0, 0), (6, .iaload, 7, 0, 0), (7, .putfield 15, 10, 0, 0), (10, .aload_n 1, 11, 0, 0), (11, .getfield 24, 14, 0, 0),
  (14, .iload_n 2, 15, 0, 0), (15, .aaload, 16, 0, 0), (16, .iconst 0, 17, 0, 0), (17, .aload_n 0, 18, 0, 0), (18, .getfield 9, 21, 0, 0), (21, .iconst 0, 22, 0, 0), (22, .aload_n 0, 23, 0, 0), (23, .getfield 15, 26, 0, 0),
  (26, .invokestatic 27, 29, 0, 0), (29, .return_, 30, 0, 0)]
abbrev M_X4_begin : MI := (yX4_begin, cX4_begin, 3, none, 4, P_X4_begin)
theorem ok_X4_begin : okP 4 cX4_begin P_X4_begin = true := by decide +kernel
def P_X4_say : List PE := [(0, .aload_n 0, 1, 0, 0), (1, .aload_n 1, 2, 0, 0), (2, .iload_n 3, 3, 0, 0), (3, .invokevirtual 33, 6, 0, 0), (6, .aload_n 0, 7, 0, 0), (7, .aload_n 1, 8, 0, 0), (8, .aload_n 2, 9, 0, 0), (9, .invokevirtual 37, 12, 0, 0),
  (12, .return_, 13, 0, 0)]
abbrev M_X4_say : MI := (yX4_say, cX4_say, 4, none, 4, P_X4_say)
theorem ok_X4_say : okP 4 cX4_say P_X4_say = true := by decide +kernel
def P_X4_sayByOne : List PE := [(0, .aload_n 0, 1, 0, 0), (1, .aload_n 1, 2, 0, 0), (2, .iload_n 3, 3, 0, 0), (3, .invokevirtual 33, 6, 0, 0), (6, .aload_n 0, 7, 0, 0), (7, .aload_n 1, 8, 0, 0), (8, .iload_n 2, 9, 0, 0), (9, .invokevirtual 41, 12, 0, 0),
  (12, .return_, 13, 0, 0)]
abbrev M_X4_sayByOne : MI := (yX4_sayByOne, cX4_sayByOne, 4, none, 4, P_X4_sayByOne)
theorem ok_X4_sayByOne : okP 4 cX4_sayByOne P_X4_sayByOne = true := by decide +kernel
def P_X4_become : List PE := [(0, .aload_n 0, 1, 0, 0), (1, .aload_n 1, 2, 0, 0), (2, .getfield 15, 5, 0, 0), (5, .putfield 15, 8, 0, 0), (8, .aload_n 0, 9, 0, 0), (9, .getfield 15, 12, 0, 0), (12, .ifCond .le 20, 15, 32, 0), (15, .aload_n 1, 16, 0, 0),
  (16, .getfield 9, 19, 0, 0), (19, .iconst 0, 20, 0, 0), (20, .aload_n 0, 21, 0, 0), (21, .getfield 9, 24, 0, 0), (24, .iconst 0, 25, 0, 0), (25, .aload_n 0, 26, 0, 0), (26, .getfield 15, 29, 0, 0), (29, .invokestatic 27, 32, 0, 0),
  (32, .return_, 33, 0, 0)]
abbrev M_X4_become : MI := (yX4_become, cX4_become, 2, none, 4, P_X4_become)
theorem ok_X4_become : okP 4 cX4_become P_X4_become = true := by decide +kernel
def P_X4_turnByRow : List PE := [(0, .iconst 0, 1, 0, 0), (1, .istore_n 3, 2, 0, 0), (2, .iload_n 3, 3, 0, 0), (3, .aload_n 2, 4, 0, 0), (4, .getfield 44, 7, 0, 0), (7, .if_icmp .ge 20, 10, 27, 0), (10, .aload_n 0, 11, 0, 0), (11, .aload_n 1, 12, 0, 0),
  (12, .aload_n 2, 13, 0, 0), (13, .getfield 47, 16, 0, 0), (16, .iload_n 3, 17, 0, 0), (17, .iaload, 18, 0, 0), (18, .invokevirtual 41, 21, 0, 0), (21, .iinc 3 1, 24, 0, 1), (24, .goto (-22), 27, 2, 0), (27, .return_, 28, 0, 0)]
abbrev M_X4_turnByRow : MI := (yX4_turnByRow, cX4_turnByRow, 4, none, 4, P_X4_turnByRow)
theorem ok_X4_turnByRow : okP 4 cX4_turnByRow P_X4_turnByRow = true := by decide +kernel
def P_X4_turn : List PE := [(0, .aload_n 0, 1, 0, 0), (1, .invokevirtual 50, 4, 0, 0), (4, .ifCond .eq 4, 7, 8, 0), (7, .return_, 8, 0, 0), (8, .aload_n 1, 9, 0, 0), (9, .getfield 54, 12, 0, 0), (12, .iload_n 2, 13, 0, 0), (13, .iaload, 14, 0, 0),
  (14, .tableswitch 109 1 5 #[34, 51, 64, 85, 102], 48, 0, 0), (48, .aload_n 0, 49, 0, 0), (49, .aload_n 1, 50, 0, 0), (50, .getfield 57, 53, 0, 0), (53, .iload_n 2, 54, 0, 0), (54, .iaload, 55, 0, 0), (55, .aload_n 1, 56, 0, 0), (56, .getfield 60, 59, 0, 0),
  (59, .invokevirtual 63, 62, 0, 0), (62, .goto 61, 65, 123, 0), (65, .aload_n 0, 66, 0, 0), (66, .aload_n 1, 67, 0, 0), (67, .getfield 67, 70, 0, 0), (70, .iload_n 2, 71, 0, 0), (71, .iaload, 72, 0, 0), (72, .invokevirtual 70, 75, 0, 0),
  (75, .goto 48, 78, 123, 0), (78, .aload_n 0, 79, 0, 0), (79, .aload_n 1, 80, 0, 0), (80, .getfield 57, 83, 0, 0), (83, .iload_n 2, 84, 0, 0), (84, .iaload, 85, 0, 0), (85, .aload_n 1, 86, 0, 0), (86, .getfield 60, 89, 0, 0),
  (89, .invokevirtual 63, 92, 0, 0), (92, .aload_n 0, 93, 0, 0), (93, .invokevirtual 74, 96, 0, 0), (96, .goto 27, 99, 123, 0), (99, .aload_n 0, 100, 0, 0), (100, .aload_n 1, 101, 0, 0), (101, .getfield 67, 104, 0, 0), (104, .iload_n 2, 105, 0, 0),
  (105, .iaload, 106, 0, 0), (106, .aload_n 1, 107, 0, 0), (107, .getfield 60, 110, 0, 0), (110, .invokevirtual 77, 113, 0, 0), (113, .goto 10, 116, 123, 0), (116, .aload_n 0, 117, 0, 0), (117, .invokevirtual 80, 120, 0, 0), (120, .goto 3, 123, 123, 0),
  (123, .return_, 124, 0, 0)]
abbrev M_X4_turn : MI := (yX4_turn, cX4_turn, 3, none, 4, P_X4_turn)
theorem ok_X4_turn : okP 4 cX4_turn P_X4_turn = true := by decide +kernel
def P_X4_vowelCount : List PE := [(0, .iconst 0, 1, 0, 0), (1, .istore_n 2, 2, 0, 0), (2, .iconst 0, 3, 0, 0), (3, .istore_n 3, 4, 0, 0), (4, .iload_n 3, 5, 0, 0), (5, .aload_n 0, 6, 0, 0), (6, .getfield 15, 9, 0, 0), (9, .if_icmp .ge 22, 12, 31, 0),
  (12, .iload_n 2, 13, 0, 0), (13, .iload_n 1, 14, 0, 0), (14, .aload_n 0, 15, 0, 0), (15, .getfield 9, 18, 0, 0), (18, .iload_n 3, 19, 0, 0), (19, .iaload, 20, 0, 0), (20, .iushr, 21, 0, 0), (21, .iconst 1, 22, 0, 1),
  (22, .iand, 23, 0, 0), (23, .iadd, 24, 0, 0), (24, .istore_n 2, 25, 0, 0), (25, .iinc 3 1, 28, 0, 1), (28, .goto (-24), 31, 4, 0), (31, .iload_n 2, 32, 0, 0), (32, .ireturn, 33, 0, 0)]
abbrev M_X4_vowelCount : MI := (yX4_vowelCount, cX4_vowelCount, 4, (some .int), 4, P_X4_vowelCount)
theorem ok_X4_vowelCount : okP 4 cX4_vowelCount P_X4_vowelCount = true := by decide +kernel
def P_X4_putAfterVowels : List PE := [(0, .aload_n 0, 1, 0, 0), (1, .getfield 15, 4, 0, 0), (4, .aload_n 0, 5, 0, 0), (5, .iload_n 2, 6, 0, 0), (6, .invokevirtual 83, 9, 0, 0), (9, .iadd, 10, 0, 0), (10, .istore_n 3, 11, 0, 0), (11, .iload_n 3, 12, 0, 0),
  (12, .bipush 40, 14, 0, 40), (14, .if_icmp .le 9, 17, 23, 0), (17, .aload_n 0, 18, 0, 0), (18, .iconst (-1), 19, 0, (-1)), (19, .putfield 15, 22, 0, 0), (22, .return_, 23, 0, 0), (23, .aload_n 0, 24, 0, 0), (24, .getfield 15, 27, 0, 0),
  (27, .iconst 1, 28, 0, 1), (28, .isub, 29, 0, 0), (29, .istore 4, 31, 0, 0), (31, .aload_n 0, 32, 0, 0), (32, .iload_n 3, 33, 0, 0), (33, .putfield 15, 36, 0, 0), (36, .iload 4, 38, 0, 0), (38, .ifCond .lt 48, 41, 86, 0),
  (41, .aload_n 0, 42, 0, 0), (42, .getfield 9, 45, 0, 0), (45, .iload 4, 47, 0, 0), (47, .iaload, 48, 0, 0), (48, .istore 5, 50, 0, 0), (50, .iload_n 2, 51, 0, 0), (51, .iload 5, 53, 0, 0), (53, .iushr, 54, 0, 0),
  (54, .iconst 1, 55, 0, 1), (55, .iand, 56, 0, 0), (56, .ifCond .eq 13, 59, 69, 0), (59, .iinc 3 (-1), 62, 0, (-1)), (62, .aload_n 0, 63, 0, 0), (63, .getfield 9, 66, 0, 0), (66, .iload_n 3, 67, 0, 0), (67, .iload_n 1, 68, 0, 0),
  (68, .iastore, 69, 0, 0), (69, .iinc 3 (-1), 72, 0, (-1)), (72, .aload_n 0, 73, 0, 0), (73, .getfield 9, 76, 0, 0), (76, .iload_n 3, 77, 0, 0), (77, .iload 5, 79, 0, 0), (79, .iastore, 80, 0, 0), (80, .iinc 4 (-1), 83, 0, (-1)),
  (83, .goto (-47), 86, 36, 0), (86, .return_, 87, 0, 0)]
abbrev M_X4_putAfterVowels : MI := (yX4_putAfterVowels, cX4_putAfterVowels, 6, none, 4, P_X4_putAfterVowels)
theorem ok_X4_putAfterVowels : okP 4 cX4_putAfterVowels P_X4_putAfterVowels = true := by decide +kernel
def P_X4_repeatFirst : List PE := [(0, .aload_n 0, 1, 0, 0), (1, .invokevirtual 50, 4, 0, 0), (4, .ifCond .eq 4, 7, 8, 0), (7, .return_, 8, 0, 0), (8, .aload_n 0, 9, 0, 0), (9, .getfield 15, 12, 0, 0), (12, .bipush 40, 14, 0, 40), (14, .if_icmp .ne 9, 17, 23, 0),
  (17, .aload_n 0, 18, 0, 0), (18, .iconst (-1), 19, 0, (-1)), (19, .putfield 15, 22, 0, 0), (22, .return_, 23, 0, 0), (23, .aload_n 0, 24, 0, 0), (24, .getfield 9, 27, 0, 0), (27, .aload_n 0, 28, 0, 0), (28, .getfield 15, 31, 0, 0),
  (31, .aload_n 0, 32, 0, 0), (32, .getfield 9, 35, 0, 0), (35, .iconst 0, 36, 0, 0), (36, .iaload, 37, 0, 0), (37, .iastore, 38, 0, 0), (38, .aload_n 0, 39, 0, 0), (39, .dup, 40, 0, 0), (40, .getfield 15, 43, 0, 0),
  (43, .iconst 1, 44, 0, 1), (44, .iadd, 45, 0, 0), (45, .putfield 15, 48, 0, 0), (48, .return_, 49, 0, 0)]
abbrev M_X4_repeatFirst : MI := (yX4_repeatFirst, cX4_repeatFirst, 1, none, 4, P_X4_repeatFirst)
theorem ok_X4_repeatFirst : okP 4 cX4_repeatFirst P_X4_repeatFirst = true := by decide +kernel
def P_X4_shift : List PE := [(0, .iconst 0, 1, 0, 0), (1, .istore_n 2, 2, 0, 0), (2, .iload_n 2, 3, 0, 0), (3, .aload_n 0, 4, 0, 0), (4, .getfield 15, 7, 0, 0), (7, .if_icmp .ge 26, 10, 33, 0), (10, .aload_n 0, 11, 0, 0), (11, .getfield 9, 14, 0, 0),
  (14, .iload_n 2, 15, 0, 0), (15, .aload_n 0, 16, 0, 0), (16, .getfield 9, 19, 0, 0), (19, .iload_n 2, 20, 0, 0), (20, .iaload, 21, 0, 0), (21, .iload_n 1, 22, 0, 0), (22, .iadd, 23, 0, 0), (23, .bipush 26, 25, 0, 26),
  (25, .irem, 26, 0, 0), (26, .iastore, 27, 0, 0), (27, .iinc 2 1, 30, 0, 1), (30, .goto (-28), 33, 2, 0), (33, .return_, 34, 0, 0)]
abbrev M_X4_shift : MI := (yX4_shift, cX4_shift, 3, none, 4, P_X4_shift)
theorem ok_X4_shift : okP 4 cX4_shift P_X4_shift = true := by decide +kernel
def P_X4_shiftVowels : List PE := [(0, .iconst 0, 1, 0, 0), (1, .istore_n 3, 2, 0, 0), (2, .iload_n 3, 3, 0, 0), (3, .aload_n 0, 4, 0, 0), (4, .getfield 15, 7, 0, 0), (7, .if_icmp .ge 39, 10, 46, 0), (10, .iload_n 2, 11, 0, 0), (11, .aload_n 0, 12, 0, 0),
  (12, .getfield 9, 15, 0, 0), (15, .iload_n 3, 16, 0, 0), (16, .iaload, 17, 0, 0), (17, .iushr, 18, 0, 0), (18, .iconst 1, 19, 0, 1), (19, .iand, 20, 0, 0), (20, .ifCond .eq 20, 23, 40, 0), (23, .aload_n 0, 24, 0, 0),
  (24, .getfield 9, 27, 0, 0), (27, .iload_n 3, 28, 0, 0), (28, .aload_n 0, 29, 0, 0), (29, .getfield 9, 32, 0, 0), (32, .iload_n 3, 33, 0, 0), (33, .iaload, 34, 0, 0), (34, .iload_n 1, 35, 0, 0), (35, .iadd, 36, 0, 0),
  (36, .bipush 26, 38, 0, 26), (38, .irem, 39, 0, 0), (39, .iastore, 40, 0, 0), (40, .iinc 3 1, 43, 0, 1), (43, .goto (-41), 46, 2, 0), (46, .return_, 47, 0, 0)]
abbrev M_X4_shiftVowels : MI := (yX4_shiftVowels, cX4_shiftVowels, 4, none, 4, P_X4_shiftVowels)
theorem ok_X4_shiftVowels : okP 4 cX4_shiftVowels P_X4_shiftVowels = true := by decide +kernel
def P_X4_reverse : List PE := [(0, .iconst 0, 1, 0, 0), (1, .istore_n 1, 2, 0, 0), (2, .aload_n 0, 3, 0, 0), (3, .getfield 15, 6, 0, 0), (6, .iconst 1, 7, 0, 1), (7, .isub, 8, 0, 0), (8, .istore_n 2, 9, 0, 0), (9, .iload_n 1, 10, 0, 0),
  (10, .iload_n 2, 11, 0, 0), (11, .if_icmp .ge 38, 14, 49, 0), (14, .aload_n 0, 15, 0, 0), (15, .getfield 9, 18, 0, 0), (18, .iload_n 1, 19, 0, 0), (19, .iaload, 20, 0, 0), (20, .istore_n 3, 21, 0, 0), (21, .aload_n 0, 22, 0, 0),
  (22, .getfield 9, 25, 0, 0), (25, .iload_n 1, 26, 0, 0), (26, .aload_n 0, 27, 0, 0), (27, .getfield 9, 30, 0, 0), (30, .iload_n 2, 31, 0, 0), (31, .iaload, 32, 0, 0), (32, .iastore, 33, 0, 0), (33, .aload_n 0, 34, 0, 0),
  (34, .getfield 9, 37, 0, 0), (37, .iload_n 2, 38, 0, 0), (38, .iload_n 3, 39, 0, 0), (39, .iastore, 40, 0, 0), (40, .iinc 1 1, 43, 0, 1), (43, .iinc 2 (-1), 46, 0, (-1)), (46, .goto (-37), 49, 9, 0), (49, .return_, 50, 0, 0)]
abbrev M_X4_reverse : MI := (yX4_reverse, cX4_reverse, 4, none, 4, P_X4_reverse)
theorem ok_X4_reverse : okP 4 cX4_reverse P_X4_reverse = true := by decide +kernel
def P_X4_answer : List PE := [(0, .aload_n 0, 1, 0, 0), (1, .invokevirtual 50, 4, 0, 0), (4, .ifCond .eq 6, 7, 10, 0), (7, .bipush (-3), 9, 0, (-3)), (9, .ireturn, 10, 0, 0), (10, .iload_n 1, 11, 0, 0), (11, .iconst (-1), 12, 0, (-1)), (12, .if_icmp .ne 8, 15, 20, 0),
  (15, .aload_n 0, 16, 0, 0), (16, .getfield 15, 19, 0, 0), (19, .ireturn, 20, 0, 0), (20, .iload_n 1, 21, 0, 0), (21, .ifCond .lt 20, 24, 41, 0), (24, .iload_n 1, 25, 0, 0), (25, .aload_n 0, 26, 0, 0), (26, .getfield 15, 29, 0, 0),
  (29, .if_icmp .ge 12, 32, 41, 0), (32, .aload_n 0, 33, 0, 0), (33, .getfield 9, 36, 0, 0), (36, .iload_n 1, 37, 0, 0), (37, .iaload, 38, 0, 0), (38, .goto 4, 41, 42, 0), (41, .iconst (-1), 42, 0, (-1)), (42, .ireturn, 43, 0, 0)]
abbrev M_X4_answer : MI := (yX4_answer, cX4_answer, 2, (some .int), 4, P_X4_answer)
theorem ok_X4_answer : okP 4 cX4_answer P_X4_answer = true := by decide +kernel
def P_X4_isLike : List PE := [(0, .aload_n 0, 1, 0, 0), (1, .invokevirtual 50, 4, 0, 0), (4, .ifCond .ne 14, 7, 18, 0), (7, .aload_n 0, 8, 0, 0), (8, .getfield 15, 11, 0, 0), (11, .aload_n 1, 12, 0, 0), (12, .getfield 15, 15, 0, 0), (15, .if_icmp .eq 5, 18, 20, 0),
  (18, .iconst 0, 19, 0, 0), (19, .ireturn, 20, 0, 0), (20, .iconst 0, 21, 0, 0), (21, .istore_n 2, 22, 0, 0), (22, .iload_n 2, 23, 0, 0), (23, .aload_n 0, 24, 0, 0), (24, .getfield 15, 27, 0, 0), (27, .if_icmp .ge 26, 30, 53, 0),
  (30, .aload_n 0, 31, 0, 0), (31, .getfield 9, 34, 0, 0), (34, .iload_n 2, 35, 0, 0), (35, .iaload, 36, 0, 0), (36, .aload_n 1, 37, 0, 0), (37, .getfield 9, 40, 0, 0), (40, .iload_n 2, 41, 0, 0), (41, .iaload, 42, 0, 0),
  (42, .if_icmp .eq 5, 45, 47, 0), (45, .iconst 0, 46, 0, 0), (46, .ireturn, 47, 0, 0), (47, .iinc 2 1, 50, 0, 1), (50, .goto (-28), 53, 22, 0), (53, .iconst 1, 54, 0, 1), (54, .ireturn, 55, 0, 0)]
abbrev M_X4_isLike : MI := (yX4_isLike, cX4_isLike, 3, (some .boolean), 4, P_X4_isLike)
theorem ok_X4_isLike : okP 4 cX4_isLike P_X4_isLike = true := by decide +kernel
def P_X4_isWord : List PE := [(0, .aload_n 0, 1, 0, 0), (1, .getfield 15, 4, 0, 0), (4, .aload_n 1, 5, 0, 0), (5, .getfield 19, 8, 0, 0), (8, .iload_n 2, 9, 0, 0), (9, .iaload, 10, 0, 0), (10, .if_icmp .eq 5, 13, 15, 0), (13, .iconst 0, 14, 0, 0),
  (14, .ireturn, 15, 0, 0), (15, .iconst 0, 16, 0, 0), (16, .istore_n 3, 17, 0, 0), (17, .iload_n 3, 18, 0, 0), (18, .aload_n 0, 19, 0, 0), (19, .getfield 15, 22, 0, 0), (22, .if_icmp .ge 28, 25, 50, 0), (25, .aload_n 0, 26, 0, 0),
  (26, .getfield 9, 29, 0, 0), (29, .iload_n 3, 30, 0, 0), (30, .iaload, 31, 0, 0), (31, .aload_n 1, 32, 0, 0), (32, .getfield 24, 35, 0, 0), (35, .iload_n 2, 36, 0, 0), (36, .aaload, 37, 0, 0), (37, .iload_n 3, 38, 0, 0),
  (38, .iaload, 39, 0, 0), (39, .if_icmp .eq 5, 42, 44, 0), (42, .iconst 0, 43, 0, 0), (43, .ireturn, 44, 0, 0), (44, .iinc 3 1, 47, 0, 1), (47, .goto (-30), 50, 17, 0), (50, .iconst 1, 51, 0, 1), (51, .ireturn, 52, 0, 0)]
abbrev M_X4_isWord : MI := (yX4_isWord, cX4_isWord, 4, (some .boolean), 4, P_X4_isWord)
theorem ok_X4_isWord : okP 4 cX4_isWord P_X4_isWord = true := by decide +kernel
def P_X4_differences : List PE := [(0, .iconst 0, 1, 0, 0), (1, .istore_n 2, 2, 0, 0), (2, .iconst 0, 3, 0, 0), (3, .istore_n 3, 4, 0, 0), (4, .iload_n 3, 5, 0, 0), (5, .aload_n 0, 6, 0, 0), (6, .getfield 15, 9, 0, 0), (9, .if_icmp .ge 27, 12, 36, 0),
  (12, .aload_n 0, 13, 0, 0), (13, .getfield 9, 16, 0, 0), (16, .iload_n 3, 17, 0, 0), (17, .iaload, 18, 0, 0), (18, .aload_n 1, 19, 0, 0), (19, .getfield 9, 22, 0, 0), (22, .iload_n 3, 23, 0, 0), (23, .iaload, 24, 0, 0),
  (24, .if_icmp .eq 6, 27, 30, 0), (27, .iinc 2 1, 30, 0, 1), (30, .iinc 3 1, 33, 0, 1), (33, .goto (-29), 36, 4, 0), (36, .iload_n 2, 37, 0, 0), (37, .ireturn, 38, 0, 0)]
abbrev M_X4_differences : MI := (yX4_differences, cX4_differences, 4, (some .int), 4, P_X4_differences)
theorem ok_X4_differences : okP 4 cX4_differences P_X4_differences = true := by decide +kernel
def P_X5_begin : List PE := [(0, .aload_n 0, 1, 0, 0), (1, .aload_n 1, 2, 0, 0), (2, .getfield 18, 5, 0, 0), (5, .putfield 24, 8, 0, 0), (8, .iconst 0, 9, 0, 0), (9, .istore_n 2, 10, 0, 0), (10, .iload_n 2, 11, 0, 0), (11, .aload_n 0, 12, 0, 0),
  (12, .getfield 24, 15, 0, 0), (15, .if_icmp .ge 20, 18, 35, 0), (18, .aload_n 0, 19, 0, 0), (19, .getfield 11, 22, 0, 0), (22, .iload_n 2, 23, 0, 0), (23, .aaload, 24, 0, 0), (24, .aload_n 1, 25, 0, 0), (25, .iload_n 2, 26, 0, 0),
  (26, .invokevirtual 27, 29, 0, 0), (29, .iinc 2 1, 32, 0, 1), (32, .goto (-22), 35, 10, 0), (35, .return_, 36, 0, 0)]
abbrev M_X5_begin : MI := (yX5_begin, cX5_begin, 3, none, 5, P_X5_begin)
theorem ok_X5_begin : okP 5 cX5_begin P_X5_begin = true := by decide +kernel
def P_X5_sayAll : List PE := [(0, .aload_n 0, 1, 0, 0), (1, .aload_n 1, 2, 0, 0), (2, .getfield 18, 5, 0, 0), (5, .putfield 24, 8, 0, 0), (8, .iconst 0, 9, 0, 0), (9, .istore_n 3, 10, 0, 0), (10, .iload_n 3, 11, 0, 0), (11, .aload_n 0, 12, 0, 0),
  (12, .getfield 24, 15, 0, 0), (15, .if_icmp .ge 31, 18, 46, 0), (18, .aload_n 0, 19, 0, 0), (19, .getfield 11, 22, 0, 0), (22, .iload_n 3, 23, 0, 0), (23, .aaload, 24, 0, 0), (24, .aload_n 1, 25, 0, 0), (25, .iload_n 3, 26, 0, 0),
  (26, .invokevirtual 27, 29, 0, 0), (29, .aload_n 0, 30, 0, 0), (30, .getfield 11, 33, 0, 0), (33, .iload_n 3, 34, 0, 0), (34, .aaload, 35, 0, 0), (35, .aload_n 1, 36, 0, 0), (36, .aload_n 2, 37, 0, 0), (37, .invokevirtual 31, 40, 0, 0),
  (40, .iinc 3 1, 43, 0, 1), (43, .goto (-33), 46, 10, 0), (46, .return_, 47, 0, 0)]
abbrev M_X5_sayAll : MI := (yX5_sayAll, cX5_sayAll, 4, none, 5, P_X5_sayAll)
theorem ok_X5_sayAll : okP 5 cX5_sayAll P_X5_sayAll = true := by decide +kernel
def P_X5_becomeTurned : List PE := [(0, .aload_n 0, 1, 0, 0), (1, .aload_n 1, 2, 0, 0), (2, .getfield 24, 5, 0, 0), (5, .putfield 24, 8, 0, 0), (8, .iconst 0, 9, 0, 0), (9, .istore 4, 11, 0, 0), (11, .iload 4, 13, 0, 0), (13, .aload_n 0, 14, 0, 0),
  (14, .getfield 24, 17, 0, 0), (17, .if_icmp .ge 38, 20, 55, 0), (20, .aload_n 0, 21, 0, 0), (21, .getfield 11, 24, 0, 0), (24, .iload 4, 26, 0, 0), (26, .aaload, 27, 0, 0), (27, .aload_n 1, 28, 0, 0), (28, .getfield 11, 31, 0, 0),
  (31, .iload 4, 33, 0, 0), (33, .aaload, 34, 0, 0), (34, .invokevirtual 35, 37, 0, 0), (37, .aload_n 0, 38, 0, 0), (38, .getfield 11, 41, 0, 0), (41, .iload 4, 43, 0, 0), (43, .aaload, 44, 0, 0), (44, .aload_n 2, 45, 0, 0),
  (45, .iload_n 3, 46, 0, 0), (46, .invokevirtual 39, 49, 0, 0), (49, .iinc 4 1, 52, 0, 1), (52, .goto (-41), 55, 11, 0), (55, .return_, 56, 0, 0)]
abbrev M_X5_becomeTurned : MI := (yX5_becomeTurned, cX5_becomeTurned, 5, none, 5, P_X5_becomeTurned)
theorem ok_X5_becomeTurned : okP 5 cX5_becomeTurned P_X5_becomeTurned = true := by decide +kernel
def P_X5_alike : List PE := [(0, .iconst 0, 1, 0, 0), (1, .istore_n 1, 2, 0, 0), (2, .iconst 0, 3, 0, 0), (3, .istore_n 2, 4, 0, 0), (4, .iload_n 2, 5, 0, 0), (5, .aload_n 0, 6, 0, 0), (6, .getfield 24, 9, 0, 0), (9, .if_icmp .ge 55, 12, 64, 0),
  (12, .iload_n 2, 13, 0, 0), (13, .iconst 1, 14, 0, 1), (14, .iadd, 15, 0, 0), (15, .istore_n 3, 16, 0, 0), (16, .iload_n 3, 17, 0, 0), (17, .aload_n 0, 18, 0, 0), (18, .getfield 24, 21, 0, 0), (21, .if_icmp .ge 37, 24, 58, 0),
  (24, .aload_n 0, 25, 0, 0), (25, .getfield 11, 28, 0, 0), (28, .iload_n 2, 29, 0, 0), (29, .aaload, 30, 0, 0), (30, .aload_n 0, 31, 0, 0), (31, .getfield 11, 34, 0, 0), (34, .iload_n 3, 35, 0, 0), (35, .aaload, 36, 0, 0),
  (36, .invokevirtual 42, 39, 0, 0), (39, .ifCond .eq 13, 42, 52, 0), (42, .iload_n 1, 43, 0, 0), (43, .iconst 1, 44, 0, 1), (44, .iload_n 2, 45, 0, 0), (45, .ishl, 46, 0, 0), (46, .iconst 1, 47, 0, 1), (47, .iload_n 3, 48, 0, 0),
  (48, .ishl, 49, 0, 0), (49, .ior, 50, 0, 0), (50, .ior, 51, 0, 0), (51, .istore_n 1, 52, 0, 0), (52, .iinc 3 1, 55, 0, 1), (55, .goto (-39), 58, 16, 0), (58, .iinc 2 1, 61, 0, 1), (61, .goto (-57), 64, 4, 0),
  (64, .iload_n 1, 65, 0, 0), (65, .ireturn, 66, 0, 0)]
abbrev M_X5_alike : MI := (yX5_alike, cX5_alike, 4, (some .int), 5, P_X5_alike)
theorem ok_X5_alike : okP 5 cX5_alike P_X5_alike = true := by decide +kernel
def P_X5_apart : List PE := [(0, .iconst (-1), 1, 0, (-1)), (1, .istore_n 1, 2, 0, 0), (2, .iconst 0, 3, 0, 0), (3, .istore_n 2, 4, 0, 0), (4, .iload_n 2, 5, 0, 0), (5, .aload_n 0, 6, 0, 0), (6, .getfield 24, 9, 0, 0), (9, .if_icmp .ge 94, 12, 103, 0),
  (12, .iload_n 2, 13, 0, 0), (13, .iconst 1, 14, 0, 1), (14, .iadd, 15, 0, 0), (15, .istore_n 3, 16, 0, 0), (16, .iload_n 3, 17, 0, 0), (17, .aload_n 0, 18, 0, 0), (18, .getfield 24, 21, 0, 0), (21, .if_icmp .ge 76, 24, 97, 0),
  (24, .aload_n 0, 25, 0, 0), (25, .getfield 11, 28, 0, 0), (28, .iload_n 2, 29, 0, 0), (29, .aaload, 30, 0, 0), (30, .invokevirtual 46, 33, 0, 0), (33, .ifCond .ne 58, 36, 91, 0), (36, .aload_n 0, 37, 0, 0), (37, .getfield 11, 40, 0, 0),
  (40, .iload_n 2, 41, 0, 0), (41, .aaload, 42, 0, 0), (42, .getfield 50, 45, 0, 0), (45, .aload_n 0, 46, 0, 0), (46, .getfield 11, 49, 0, 0), (49, .iload_n 3, 50, 0, 0), (50, .aaload, 51, 0, 0), (51, .getfield 50, 54, 0, 0),
  (54, .if_icmp .ne 37, 57, 91, 0), (57, .aload_n 0, 58, 0, 0), (58, .getfield 11, 61, 0, 0), (61, .iload_n 2, 62, 0, 0), (62, .aaload, 63, 0, 0), (63, .aload_n 0, 64, 0, 0), (64, .getfield 11, 67, 0, 0), (67, .iload_n 3, 68, 0, 0),
  (68, .aaload, 69, 0, 0), (69, .invokevirtual 51, 72, 0, 0), (72, .istore 4, 74, 0, 0), (74, .iload_n 1, 75, 0, 0), (75, .iconst (-1), 76, 0, (-1)), (76, .if_icmp .ne 8, 79, 84, 0), (79, .iload 4, 81, 0, 0), (81, .goto 9, 84, 90, 0),
  (84, .iload_n 1, 85, 0, 0), (85, .iload 4, 87, 0, 0), (87, .invokestatic 55, 90, 0, 0), (90, .istore_n 1, 91, 0, 0), (91, .iinc 3 1, 94, 0, 1), (94, .goto (-78), 97, 16, 0), (97, .iinc 2 1, 100, 0, 1), (100, .goto (-96), 103, 4, 0),
  (103, .iload_n 1, 104, 0, 0), (104, .ireturn, 105, 0, 0)]
abbrev M_X5_apart : MI := (yX5_apart, cX5_apart, 5, (some .int), 5, P_X5_apart)
theorem ok_X5_apart : okP 5 cX5_apart P_X5_apart = true := by decide +kernel
def P_X5_tooLong : List PE := [(0, .iconst 0, 1, 0, 0), (1, .istore_n 1, 2, 0, 0), (2, .iconst 0, 3, 0, 0), (3, .istore_n 2, 4, 0, 0), (4, .iload_n 2, 5, 0, 0), (5, .aload_n 0, 6, 0, 0), (6, .getfield 24, 9, 0, 0), (9, .if_icmp .ge 27, 12, 36, 0),
  (12, .aload_n 0, 13, 0, 0), (13, .getfield 11, 16, 0, 0), (16, .iload_n 2, 17, 0, 0), (17, .aaload, 18, 0, 0), (18, .invokevirtual 46, 21, 0, 0), (21, .ifCond .eq 9, 24, 30, 0), (24, .iload_n 1, 25, 0, 0), (25, .iconst 1, 26, 0, 1),
  (26, .iload_n 2, 27, 0, 0), (27, .ishl, 28, 0, 0), (28, .ior, 29, 0, 0), (29, .istore_n 1, 30, 0, 0), (30, .iinc 2 1, 33, 0, 1), (33, .goto (-29), 36, 4, 0), (36, .iload_n 1, 37, 0, 0), (37, .ireturn, 38, 0, 0)]
abbrev M_X5_tooLong : MI := (yX5_tooLong, cX5_tooLong, 3, (some .int), 5, P_X5_tooLong)
theorem ok_X5_tooLong : okP 5 cX5_tooLong P_X5_tooLong = true := by decide +kernel
def P_X5_hasAnother : List PE := [(0, .iconst 0, 1, 0, 0), (1, .istore_n 3, 2, 0, 0), (2, .iload_n 3, 3, 0, 0), (3, .aload_n 0, 4, 0, 0), (4, .getfield 24, 7, 0, 0), (7, .if_icmp .ge 29, 10, 36, 0), (10, .iload_n 3, 11, 0, 0), (11, .iload_n 2, 12, 0, 0),
  (12, .if_icmp .eq 18, 15, 30, 0), (15, .aload_n 1, 16, 0, 0), (16, .aload_n 0, 17, 0, 0), (17, .getfield 11, 20, 0, 0), (20, .iload_n 3, 21, 0, 0), (21, .aaload, 22, 0, 0), (22, .invokevirtual 42, 25, 0, 0), (25, .ifCond .eq 5, 28, 30, 0),
  (28, .iconst 1, 29, 0, 1), (29, .ireturn, 30, 0, 0), (30, .iinc 3 1, 33, 0, 1), (33, .goto (-31), 36, 2, 0), (36, .iconst 0, 37, 0, 0), (37, .ireturn, 38, 0, 0)]
abbrev M_X5_hasAnother : MI := (yX5_hasAnother, cX5_hasAnother, 4, (some .boolean), 5, P_X5_hasAnother)
theorem ok_X5_hasAnother : okP 5 cX5_hasAnother P_X5_hasAnother = true := by decide +kernel
def P_X6_isMissing : List PE := [(0, .aload_n 0, 1, 0, 0), (1, .getfield 15, 4, 0, 0), (4, .iconst (-1), 5, 0, (-1)), (5, .if_icmp .ne 7, 8, 12, 0), (8, .iconst 1, 9, 0, 1), (9, .goto 4, 12, 13, 0), (12, .iconst 0, 13, 0, 0), (13, .ireturn, 14, 0, 0)]
abbrev M_X6_isMissing : MI := (yX6_isMissing, cX6_isMissing, 1, (some .boolean), 6, P_X6_isMissing)
theorem ok_X6_isMissing : okP 6 cX6_isMissing P_X6_isMissing = true := by decide +kernel
def P_X6_become : List PE := [(0, .aload_n 0, 1, 0, 0), (1, .iload_n 1, 2, 0, 0), (2, .putfield 15, 5, 0, 0), (5, .aload_n 0, 6, 0, 0), (6, .iload_n 2, 7, 0, 0), (7, .putfield 19, 10, 0, 0), (10, .iconst 0, 11, 0, 0), (11, .istore_n 3, 12, 0, 0),
  (12, .iload_n 3, 13, 0, 0), (13, .bipush 40, 15, 0, 40), (15, .if_icmp .ge 16, 18, 31, 0), (18, .aload_n 0, 19, 0, 0), (19, .getfield 9, 22, 0, 0), (22, .iload_n 3, 23, 0, 0), (23, .iconst 0, 24, 0, 0), (24, .iastore, 25, 0, 0),
  (25, .iinc 3 1, 28, 0, 1), (28, .goto (-16), 31, 12, 0), (31, .return_, 32, 0, 0)]
abbrev M_X6_become : MI := (yX6_become, cX6_become, 4, none, 6, P_X6_become)
theorem ok_X6_become : okP 6 cX6_become P_X6_become = true := by decide +kernel
def P_X6_becomeSaying : List PE := [(0, .aload_n 0, 1, 0, 0), (1, .iconst 0, 2, 0, 0), (2, .aload_n 1, 3, 0, 0), (3, .getfield 22, 6, 0, 0), (6, .invokevirtual 25, 9, 0, 0), (9, .aload_n 1, 10, 0, 0), (10, .getfield 29, 13, 0, 0), (13, .iconst 0, 14, 0, 0),
  (14, .aload_n 0, 15, 0, 0), (15, .getfield 9, 18, 0, 0), (18, .iconst 0, 19, 0, 0), (19, .aload_n 1, 20, 0, 0), (20, .getfield 22, 23, 0, 0), (23, .invokestatic 32, 26, 0, 0), (26, .return_, 27, 0, 0)]
abbrev M_X6_becomeSaying : MI := (yX6_becomeSaying, cX6_becomeSaying, 2, none, 6, P_X6_becomeSaying)
theorem ok_X6_becomeSaying : okP 6 cX6_becomeSaying P_X6_becomeSaying = true := by decide +kernel
def P_X6_put : List PE := [(0, .aload_n 0, 1, 0, 0), (1, .getfield 15, 4, 0, 0), (4, .lookupswitch 50 #[(0, 28), (1, 39)], 32, 0, 0), (32, .aload_n 0, 33, 0, 0), (33, .getfield 9, 36, 0, 0), (36, .iload_n 1, 37, 0, 0), (37, .iload_n 2, 38, 0, 0), (38, .i2b, 39, 0, 0),
  (39, .iastore, 40, 0, 0), (40, .goto 21, 43, 61, 0), (43, .aload_n 0, 44, 0, 0), (44, .getfield 9, 47, 0, 0), (47, .iload_n 1, 48, 0, 0), (48, .iload_n 2, 49, 0, 0), (49, .i2s, 50, 0, 0), (50, .iastore, 51, 0, 0),
  (51, .goto 10, 54, 61, 0), (54, .aload_n 0, 55, 0, 0), (55, .getfield 9, 58, 0, 0), (58, .iload_n 1, 59, 0, 0), (59, .iload_n 2, 60, 0, 0), (60, .iastore, 61, 0, 0), (61, .return_, 62, 0, 0)]
abbrev M_X6_put : MI := (yX6_put, cX6_put, 3, none, 6, P_X6_put)
theorem ok_X6_put : okP 6 cX6_put P_X6_put = true := by decide +kernel
def P_X6_holds : List PE := [(0, .iload_n 1, 1, 0, 0), (1, .ifCond .lt 29, 4, 30, 0), (4, .iload_n 2, 5, 0, 0), (5, .ifCond .lt 25, 8, 30, 0), (8, .iload_n 1, 9, 0, 0), (9, .aload_n 0, 10, 0, 0), (10, .getfield 19, 13, 0, 0), (13, .if_icmp .gt 17, 16, 30, 0),
  (16, .iload_n 2, 17, 0, 0), (17, .aload_n 0, 18, 0, 0), (18, .getfield 19, 21, 0, 0), (21, .iload_n 1, 22, 0, 0), (22, .isub, 23, 0, 0), (23, .if_icmp .gt 7, 26, 30, 0), (26, .iconst 1, 27, 0, 1), (27, .goto 4, 30, 31, 0),
  (30, .iconst 0, 31, 0, 0), (31, .ireturn, 32, 0, 0)]
abbrev M_X6_holds : MI := (yX6_holds, cX6_holds, 3, (some .boolean), 6, P_X6_holds)
theorem ok_X6_holds : okP 6 cX6_holds P_X6_holds = true := by decide +kernel
def P_X6_tellsWord : List PE := [(0, .aload_n 0, 1, 0, 0), (1, .getfield 19, 4, 0, 0), (4, .iconst 1, 5, 0, 1), (5, .if_icmp .lt 12, 8, 17, 0), (8, .aload_n 0, 9, 0, 0), (9, .getfield 19, 12, 0, 0), (12, .bipush 10, 14, 0, 10), (14, .if_icmp .le 5, 17, 19, 0),
  (17, .iconst 0, 18, 0, 0), (18, .ireturn, 19, 0, 0), (19, .iconst 0, 20, 0, 0), (20, .istore_n 1, 21, 0, 0), (21, .iload_n 1, 22, 0, 0), (22, .aload_n 0, 23, 0, 0), (23, .getfield 19, 26, 0, 0), (26, .if_icmp .ge 23, 29, 49, 0),
  (29, .aload_n 0, 30, 0, 0), (30, .getfield 9, 33, 0, 0), (33, .iload_n 1, 34, 0, 0), (34, .iaload, 35, 0, 0), (35, .invokestatic 38, 38, 0, 0), (38, .ifCond .ne 5, 41, 43, 0), (41, .iconst 0, 42, 0, 0), (42, .ireturn, 43, 0, 0),
  (43, .iinc 1 1, 46, 0, 1), (46, .goto (-25), 49, 21, 0), (49, .iconst 1, 50, 0, 1), (50, .ireturn, 51, 0, 0)]
abbrev M_X6_tellsWord : MI := (yX6_tellsWord, cX6_tellsWord, 2, (some .boolean), 6, P_X6_tellsWord)
theorem ok_X6_tellsWord : okP 6 cX6_tellsWord P_X6_tellsWord = true := by decide +kernel
def P_X6_tells : List PE := [(0, .aload_n 1, 1, 0, 0), (1, .invokevirtual 42, 4, 0, 0), (4, .ifCond .ne 14, 7, 18, 0), (7, .aload_n 1, 8, 0, 0), (8, .getfield 22, 11, 0, 0), (11, .aload_n 0, 12, 0, 0), (12, .getfield 19, 15, 0, 0), (15, .if_icmp .eq 5, 18, 20, 0),
  (18, .iconst 0, 19, 0, 0), (19, .ireturn, 20, 0, 0), (20, .iconst 0, 21, 0, 0), (21, .istore_n 2, 22, 0, 0), (22, .iload_n 2, 23, 0, 0), (23, .aload_n 0, 24, 0, 0), (24, .getfield 19, 27, 0, 0), (27, .if_icmp .ge 26, 30, 53, 0),
  (30, .aload_n 0, 31, 0, 0), (31, .getfield 9, 34, 0, 0), (34, .iload_n 2, 35, 0, 0), (35, .iaload, 36, 0, 0), (36, .aload_n 1, 37, 0, 0), (37, .getfield 29, 40, 0, 0), (40, .iload_n 2, 41, 0, 0), (41, .iaload, 42, 0, 0),
  (42, .if_icmp .eq 5, 45, 47, 0), (45, .iconst 0, 46, 0, 0), (46, .ireturn, 47, 0, 0), (47, .iinc 2 1, 50, 0, 1), (50, .goto (-28), 53, 22, 0), (53, .iconst 1, 54, 0, 1), (54, .ireturn, 55, 0, 0)]
abbrev M_X6_tells : MI := (yX6_tells, cX6_tells, 3, (some .boolean), 6, P_X6_tells)
theorem ok_X6_tells : okP 6 cX6_tells P_X6_tells = true := by decide +kernel
def P_X7_hasWord : List PE := [(0, .iload_n 1, 1, 0, 0), (1, .ifCond .lt 15, 4, 16, 0), (4, .iload_n 1, 5, 0, 0), (5, .aload_n 0, 6, 0, 0), (6, .getfield 44, 9, 0, 0), (9, .if_icmp .ge 7, 12, 16, 0), (12, .iconst 1, 13, 0, 1), (13, .goto 4, 16, 17, 0),
  (16, .iconst 0, 17, 0, 0), (17, .ireturn, 18, 0, 0)]
abbrev M_X7_hasWord : MI := (yX7_hasWord, cX7_hasWord, 2, (some .boolean), 7, P_X7_hasWord)
theorem ok_X7_hasWord : okP 7 cX7_hasWord P_X7_hasWord = true := by decide +kernel
def P_X7_hasRule : List PE := [(0, .iload_n 1, 1, 0, 0), (1, .ifCond .lt 15, 4, 16, 0), (4, .iload_n 1, 5, 0, 0), (5, .aload_n 0, 6, 0, 0), (6, .getfield 47, 9, 0, 0), (9, .if_icmp .ge 7, 12, 16, 0), (12, .iconst 1, 13, 0, 1), (13, .goto 4, 16, 17, 0),
  (16, .iconst 0, 17, 0, 0), (17, .ireturn, 18, 0, 0)]
abbrev M_X7_hasRule : MI := (yX7_hasRule, cX7_hasRule, 2, (some .boolean), 7, P_X7_hasRule)
theorem ok_X7_hasRule : okP 7 cX7_hasRule P_X7_hasRule = true := by decide +kernel
def P_X7_addWord : List PE := [(0, .aload_n 1, 1, 0, 0), (1, .getfield 50, 4, 0, 0), (4, .iconst 0, 5, 0, 0), (5, .aload_n 0, 6, 0, 0), (6, .getfield 18, 9, 0, 0), (9, .aload_n 0, 10, 0, 0), (10, .getfield 44, 13, 0, 0), (13, .aaload, 14, 0, 0),
  (14, .iconst 0, 15, 0, 0), (15, .aload_n 1, 16, 0, 0), (16, .getfield 55, 19, 0, 0), (19, .invokestatic 58, 22, 0, 0), (22, .aload_n 0, 23, 0, 0), (23, .getfield 21, 26, 0, 0), (26, .aload_n 0, 27, 0, 0), (27, .getfield 44, 30, 0, 0),
  (30, .aload_n 1, 31, 0, 0), (31, .getfield 55, 34, 0, 0), (34, .iastore, 35, 0, 0), (35, .aload_n 0, 36, 0, 0), (36, .getfield 25, 39, 0, 0), (39, .aload_n 0, 40, 0, 0), (40, .getfield 44, 43, 0, 0), (43, .iload_n 2, 44, 0, 0),
  (44, .iastore, 45, 0, 0), (45, .aload_n 0, 46, 0, 0), (46, .dup, 47, 0, 0), (47, .getfield 44, 50, 0, 0), (50, .iconst 1, 51, 0, 1), (51, .iadd, 52, 0, 0), (52, .putfield 44, 55, 0, 0), (55, .aload_n 0, 56, 0, 0),
  (56, .getfield 44, 59, 0, 0), (59, .iconst 1, 60, 0, 1), (60, .isub, 61, 0, 0), (61, .ireturn, 62, 0, 0)]
abbrev M_X7_addWord : MI := (yX7_addWord, cX7_addWord, 3, (some .int), 7, P_X7_addWord)
theorem ok_X7_addWord : okP 7 cX7_addWord P_X7_addWord = true := by decide +kernel
def P_X7_addRule : List PE := [(0, .aload_n 0, 1, 0, 0), (1, .getfield 28, 4, 0, 0), (4, .aload_n 0, 5, 0, 0), (5, .getfield 47, 8, 0, 0), (8, .iload_n 1, 9, 0, 0), (9, .iastore, 10, 0, 0), (10, .aload_n 0, 11, 0, 0), (11, .getfield 31, 14, 0, 0),
  (14, .aload_n 0, 15, 0, 0), (15, .getfield 47, 18, 0, 0), (18, .iload_n 2, 19, 0, 0), (19, .iastore, 20, 0, 0), (20, .aload_n 0, 21, 0, 0), (21, .getfield 34, 24, 0, 0), (24, .aload_n 0, 25, 0, 0), (25, .getfield 47, 28, 0, 0),
  (28, .iload_n 3, 29, 0, 0), (29, .iastore, 30, 0, 0), (30, .aload_n 0, 31, 0, 0), (31, .dup, 32, 0, 0), (32, .getfield 47, 35, 0, 0), (35, .iconst 1, 36, 0, 1), (36, .iadd, 37, 0, 0), (37, .putfield 47, 40, 0, 0),
  (40, .aload_n 0, 41, 0, 0), (41, .getfield 47, 44, 0, 0), (44, .iconst 1, 45, 0, 1), (45, .isub, 46, 0, 0), (46, .ireturn, 47, 0, 0)]
abbrev M_X7_addRule : MI := (yX7_addRule, cX7_addRule, 4, (some .int), 7, P_X7_addRule)
theorem ok_X7_addRule : okP 7 cX7_addRule P_X7_addRule = true := by decide +kernel
def P_X7_letterOf : List PE := [(0, .iload_n 2, 1, 0, 0), (1, .aload_n 0, 2, 0, 0), (2, .getfield 21, 5, 0, 0), (5, .iload_n 1, 6, 0, 0), (6, .iaload, 7, 0, 0), (7, .if_icmp .ge 14, 10, 21, 0), (10, .aload_n 0, 11, 0, 0), (11, .getfield 18, 14, 0, 0),
  (14, .iload_n 1, 15, 0, 0), (15, .aaload, 16, 0, 0), (16, .iload_n 2, 17, 0, 0), (17, .iaload, 18, 0, 0), (18, .goto 4, 21, 22, 0), (21, .iconst (-1), 22, 0, (-1)), (22, .ireturn, 23, 0, 0)]
abbrev M_X7_letterOf : MI := (yX7_letterOf, cX7_letterOf, 3, (some .int), 7, P_X7_letterOf)
theorem ok_X7_letterOf : okP 7 cX7_letterOf P_X7_letterOf = true := by decide +kernel
def P_X7_hasPart : List PE := [(0, .iload_n 1, 1, 0, 0), (1, .tableswitch 70 0 4 #[35, 37, 43, 43, 49], 36, 0, 0), (36, .iconst 1, 37, 0, 1), (37, .ireturn, 38, 0, 0), (38, .aload_n 0, 39, 0, 0), (39, .iload_n 2, 40, 0, 0), (40, .invokevirtual 64, 43, 0, 0), (43, .ireturn, 44, 0, 0),
  (44, .aload_n 0, 45, 0, 0), (45, .iload_n 2, 46, 0, 0), (46, .invokevirtual 68, 49, 0, 0), (49, .ireturn, 50, 0, 0), (50, .iload_n 2, 51, 0, 0), (51, .ifCond .lt 18, 54, 69, 0), (54, .iload_n 2, 55, 0, 0), (55, .aload_n 0, 56, 0, 0),
  (56, .getfield 40, 59, 0, 0), (59, .getfield 71, 62, 0, 0), (62, .if_icmp .ge 7, 65, 69, 0), (65, .iconst 1, 66, 0, 1), (66, .goto 4, 69, 70, 0), (69, .iconst 0, 70, 0, 0), (70, .ireturn, 71, 0, 0), (71, .iconst 0, 72, 0, 0),
  (72, .ireturn, 73, 0, 0)]
abbrev M_X7_hasPart : MI := (yX7_hasPart, cX7_hasPart, 3, (some .boolean), 7, P_X7_hasPart)
theorem ok_X7_hasPart : okP 7 cX7_hasPart P_X7_hasPart = true := by decide +kernel
def P_X7_canHold : List PE := [(0, .iload_n 1, 1, 0, 0), (1, .tableswitch 64 0 4 #[35, 51, 64, 64, 58], 36, 0, 0), (36, .iload_n 2, 37, 0, 0), (37, .ifCond .lt 13, 40, 50, 0), (40, .iload_n 2, 41, 0, 0), (41, .ldc 72, 43, 999, 67108864), (43, .if_icmp .ge 7, 46, 50, 0), (46, .iconst 1, 47, 0, 1),
  (47, .goto 4, 50, 51, 0), (50, .iconst 0, 51, 0, 0), (51, .ireturn, 52, 0, 0), (52, .iload_n 2, 53, 0, 0), (53, .bipush 99, 55, 0, 99), (55, .invokestatic 73, 58, 0, 0), (58, .ireturn, 59, 0, 0), (59, .aload_n 0, 60, 0, 0),
  (60, .iload_n 2, 61, 0, 0), (61, .invokevirtual 68, 64, 0, 0), (64, .ireturn, 65, 0, 0), (65, .iload_n 2, 66, 0, 0), (66, .invokestatic 77, 69, 0, 0), (69, .ireturn, 70, 0, 0)]
abbrev M_X7_canHold : MI := (yX7_canHold, cX7_canHold, 3, (some .boolean), 7, P_X7_canHold)
theorem ok_X7_canHold : okP 7 cX7_canHold P_X7_canHold = true := by decide +kernel
def P_X7_part : List PE := [(0, .iload_n 1, 1, 0, 0), (1, .tableswitch 57 0 3 #[31, 36, 43, 50], 32, 0, 0), (32, .aload_n 0, 33, 0, 0), (33, .getfield 10, 36, 0, 0), (36, .ireturn, 37, 0, 0), (37, .aload_n 0, 38, 0, 0), (38, .getfield 25, 41, 0, 0), (41, .iload_n 2, 42, 0, 0),
  (42, .iaload, 43, 0, 0), (43, .ireturn, 44, 0, 0), (44, .aload_n 0, 45, 0, 0), (45, .getfield 31, 48, 0, 0), (48, .iload_n 2, 49, 0, 0), (49, .iaload, 50, 0, 0), (50, .ireturn, 51, 0, 0), (51, .aload_n 0, 52, 0, 0),
  (52, .getfield 34, 55, 0, 0), (55, .iload_n 2, 56, 0, 0), (56, .iaload, 57, 0, 0), (57, .ireturn, 58, 0, 0), (58, .aload_n 0, 59, 0, 0), (59, .getfield 40, 62, 0, 0), (62, .getfield 80, 65, 0, 0), (65, .iload_n 2, 66, 0, 0),
  (66, .iaload, 67, 0, 0), (67, .ireturn, 68, 0, 0)]
abbrev M_X7_part : MI := (yX7_part, cX7_part, 3, (some .int), 7, P_X7_part)
theorem ok_X7_part : okP 7 cX7_part P_X7_part = true := by decide +kernel
def P_X7_change : List PE := [(0, .iload_n 1, 1, 0, 0), (1, .tableswitch 69 0 3 #[31, 39, 49, 59], 32, 0, 0), (32, .aload_n 0, 33, 0, 0), (33, .iload_n 3, 34, 0, 0), (34, .putfield 10, 37, 0, 0), (37, .goto 43, 40, 80, 0), (40, .aload_n 0, 41, 0, 0), (41, .getfield 25, 44, 0, 0),
  (44, .iload_n 2, 45, 0, 0), (45, .iload_n 3, 46, 0, 0), (46, .iastore, 47, 0, 0), (47, .goto 33, 50, 80, 0), (50, .aload_n 0, 51, 0, 0), (51, .getfield 31, 54, 0, 0), (54, .iload_n 2, 55, 0, 0), (55, .iload_n 3, 56, 0, 0),
  (56, .iastore, 57, 0, 0), (57, .goto 23, 60, 80, 0), (60, .aload_n 0, 61, 0, 0), (61, .getfield 34, 64, 0, 0), (64, .iload_n 2, 65, 0, 0), (65, .iload_n 3, 66, 0, 0), (66, .iastore, 67, 0, 0), (67, .goto 13, 70, 80, 0),
  (70, .aload_n 0, 71, 0, 0), (71, .getfield 40, 74, 0, 0), (74, .getfield 80, 77, 0, 0), (77, .iload_n 2, 78, 0, 0), (78, .iload_n 3, 79, 0, 0), (79, .iastore, 80, 0, 0), (80, .return_, 81, 0, 0)]
abbrev M_X7_change : MI := (yX7_change, cX7_change, 4, none, 7, P_X7_change)
theorem ok_X7_change : okP 7 cX7_change P_X7_change = true := by decide +kernel
def P_X7_become : List PE := [(0, .aload_n 0, 1, 0, 0), (1, .aload_n 1, 2, 0, 0), (2, .getfield 10, 5, 0, 0), (5, .putfield 10, 8, 0, 0), (8, .iconst 0, 9, 0, 0), (9, .istore_n 2, 10, 0, 0), (10, .iload_n 2, 11, 0, 0), (11, .bipush 8, 13, 0, 8),
  (13, .if_icmp .ge 28, 16, 41, 0), (16, .aload_n 1, 17, 0, 0), (17, .getfield 18, 20, 0, 0), (20, .iload_n 2, 21, 0, 0), (21, .aaload, 22, 0, 0), (22, .iconst 0, 23, 0, 0), (23, .aload_n 0, 24, 0, 0), (24, .getfield 18, 27, 0, 0),
  (27, .iload_n 2, 28, 0, 0), (28, .aaload, 29, 0, 0), (29, .iconst 0, 30, 0, 0), (30, .bipush 10, 32, 0, 10), (32, .invokestatic 58, 35, 0, 0), (35, .iinc 2 1, 38, 0, 1), (38, .goto (-28), 41, 10, 0), (41, .aload_n 1, 42, 0, 0),
  (42, .getfield 21, 45, 0, 0), (45, .iconst 0, 46, 0, 0), (46, .aload_n 0, 47, 0, 0), (47, .getfield 21, 50, 0, 0), (50, .iconst 0, 51, 0, 0), (51, .bipush 8, 53, 0, 8), (53, .invokestatic 58, 56, 0, 0), (56, .aload_n 1, 57, 0, 0),
  (57, .getfield 25, 60, 0, 0), (60, .iconst 0, 61, 0, 0), (61, .aload_n 0, 62, 0, 0), (62, .getfield 25, 65, 0, 0), (65, .iconst 0, 66, 0, 0), (66, .bipush 8, 68, 0, 8), (68, .invokestatic 58, 71, 0, 0), (71, .aload_n 0, 72, 0, 0),
  (72, .aload_n 1, 73, 0, 0), (73, .getfield 44, 76, 0, 0), (76, .putfield 44, 79, 0, 0), (79, .aload_n 1, 80, 0, 0), (80, .getfield 28, 83, 0, 0), (83, .iconst 0, 84, 0, 0), (84, .aload_n 0, 85, 0, 0), (85, .getfield 28, 88, 0, 0),
  (88, .iconst 0, 89, 0, 0), (89, .bipush 6, 91, 0, 6), (91, .invokestatic 58, 94, 0, 0), (94, .aload_n 1, 95, 0, 0), (95, .getfield 31, 98, 0, 0), (98, .iconst 0, 99, 0, 0), (99, .aload_n 0, 100, 0, 0), (100, .getfield 31, 103, 0, 0),
  (103, .iconst 0, 104, 0, 0), (104, .bipush 6, 106, 0, 6), (106, .invokestatic 58, 109, 0, 0), (109, .aload_n 1, 110, 0, 0), (110, .getfield 34, 113, 0, 0), (113, .iconst 0, 114, 0, 0), (114, .aload_n 0, 115, 0, 0), (115, .getfield 34, 118, 0, 0),
  (118, .iconst 0, 119, 0, 0), (119, .bipush 6, 121, 0, 6), (121, .invokestatic 58, 124, 0, 0), (124, .aload_n 0, 125, 0, 0), (125, .aload_n 1, 126, 0, 0), (126, .getfield 47, 129, 0, 0), (129, .putfield 47, 132, 0, 0), (132, .aload_n 0, 133, 0, 0),
  (133, .getfield 40, 136, 0, 0), (136, .aload_n 1, 137, 0, 0), (137, .getfield 40, 140, 0, 0), (140, .invokevirtual 82, 143, 0, 0), (143, .aload_n 0, 144, 0, 0), (144, .aload_n 1, 145, 0, 0), (145, .getfield 86, 148, 0, 0), (148, .putfield 86, 151, 0, 0),
  (151, .return_, 152, 0, 0)]
abbrev M_X7_become : MI := (yX7_become, cX7_become, 3, none, 7, P_X7_become)
theorem ok_X7_become : okP 7 cX7_become P_X7_become = true := by decide +kernel
def P_X8_put : List PE := [(0, .aload_n 0, 1, 0, 0), (1, .getfield 24, 4, 0, 0), (4, .sipush 160, 7, 0, 160), (7, .if_icmp .ge 23, 10, 30, 0), (10, .aload_n 0, 11, 0, 0), (11, .getfield 9, 14, 0, 0), (14, .aload_n 0, 15, 0, 0), (15, .getfield 24, 18, 0, 0),
  (18, .iload_n 1, 19, 0, 0), (19, .iastore, 20, 0, 0), (20, .aload_n 0, 21, 0, 0), (21, .dup, 22, 0, 0), (22, .getfield 24, 25, 0, 0), (25, .iconst 1, 26, 0, 1), (26, .iadd, 27, 0, 0), (27, .putfield 24, 30, 0, 0),
  (30, .return_, 31, 0, 0)]
abbrev M_X8_put : MI := (yX8_put, cX8_put, 2, none, 8, P_X8_put)
theorem ok_X8_put : okP 8 cX8_put P_X8_put = true := by decide +kernel
def P_X8_scan : List PE := [(0, .aload_n 0, 1, 0, 0), (1, .iconst 0, 2, 0, 0), (2, .putfield 28, 5, 0, 0), (5, .iconst 0, 6, 0, 0), (6, .istore_n 1, 7, 0, 0), (7, .iconst 1, 8, 0, 1), (8, .istore_n 2, 9, 0, 0), (9, .iconst 0, 10, 0, 0),
  (10, .istore_n 3, 11, 0, 0), (11, .iload_n 3, 12, 0, 0), (12, .sipush 160, 15, 0, 160), (15, .if_icmp .gt 39, 18, 54, 0), (18, .iload_n 2, 19, 0, 0), (19, .ifCond .eq 35, 22, 54, 0), (22, .aload_n 0, 23, 0, 0), (23, .aload_n 0, 24, 0, 0),
  (24, .iload_n 1, 25, 0, 0), (25, .invokevirtual 31, 28, 0, 0), (28, .invokevirtual 35, 31, 0, 0), (31, .istore_n 1, 32, 0, 0), (32, .aload_n 0, 33, 0, 0), (33, .getfield 15, 36, 0, 0), (36, .iload_n 3, 37, 0, 0), (37, .iaload, 38, 0, 0),
  (38, .iconst 1, 39, 0, 1), (39, .if_icmp .le 7, 42, 46, 0), (42, .iconst 1, 43, 0, 1), (43, .goto 4, 46, 47, 0), (46, .iconst 0, 47, 0, 0), (47, .istore_n 2, 48, 0, 0), (48, .iinc 3 1, 51, 0, 1), (51, .goto (-40), 54, 11, 0),
  (54, .return_, 55, 0, 0)]
abbrev M_X8_scan : MI := (yX8_scan, cX8_scan, 4, none, 8, P_X8_scan)
theorem ok_X8_scan : okP 8 cX8_scan P_X8_scan = true := by decide +kernel
def P_X8_afterBlanks : List PE := [(0, .iload_n 1, 1, 0, 0), (1, .istore_n 2, 2, 0, 0), (2, .iload_n 2, 3, 0, 0), (3, .aload_n 0, 4, 0, 0), (4, .getfield 24, 7, 0, 0), (7, .if_icmp .ge 31, 10, 38, 0), (10, .aload_n 0, 11, 0, 0), (11, .getfield 9, 14, 0, 0),
  (14, .iload_n 2, 15, 0, 0), (15, .iaload, 16, 0, 0), (16, .bipush 32, 18, 0, 32), (18, .if_icmp .eq 14, 21, 32, 0), (21, .aload_n 0, 22, 0, 0), (22, .getfield 9, 25, 0, 0), (25, .iload_n 2, 26, 0, 0), (26, .iaload, 27, 0, 0),
  (27, .bipush 10, 29, 0, 10), (29, .if_icmp .ne 9, 32, 38, 0), (32, .iinc 2 1, 35, 0, 1), (35, .goto (-33), 38, 2, 0), (38, .iload_n 2, 39, 0, 0), (39, .ireturn, 40, 0, 0)]
abbrev M_X8_afterBlanks : MI := (yX8_afterBlanks, cX8_afterBlanks, 3, (some .int), 8, P_X8_afterBlanks)
theorem ok_X8_afterBlanks : okP 8 cX8_afterBlanks P_X8_afterBlanks = true := by decide +kernel
def P_X8_scanToken : List PE := [(0, .iload_n 1, 1, 0, 0), (1, .aload_n 0, 2, 0, 0), (2, .getfield 24, 5, 0, 0), (5, .if_icmp .lt 18, 8, 23, 0), (8, .aload_n 0, 9, 0, 0), (9, .iconst 0, 10, 0, 0), (10, .iconst 0, 11, 0, 0), (11, .aload_n 0, 12, 0, 0),
  (12, .getfield 24, 15, 0, 0), (15, .aload_n 0, 16, 0, 0), (16, .getfield 24, 19, 0, 0), (19, .invokevirtual 38, 22, 0, 0), (22, .ireturn, 23, 0, 0), (23, .aload_n 0, 24, 0, 0), (24, .getfield 9, 27, 0, 0), (27, .iload_n 1, 28, 0, 0),
  (28, .iaload, 29, 0, 0), (29, .istore_n 2, 30, 0, 0), (30, .iload_n 2, 31, 0, 0), (31, .bipush 97, 33, 0, 97), (33, .if_icmp .lt 15, 36, 48, 0), (36, .iload_n 2, 37, 0, 0), (37, .bipush 122, 39, 0, 122), (39, .if_icmp .gt 9, 42, 48, 0),
  (42, .aload_n 0, 43, 0, 0), (43, .iload_n 1, 44, 0, 0), (44, .invokevirtual 42, 47, 0, 0), (47, .ireturn, 48, 0, 0), (48, .iload_n 2, 49, 0, 0), (49, .bipush 48, 51, 0, 48), (51, .if_icmp .lt 15, 54, 66, 0), (54, .iload_n 2, 55, 0, 0),
  (55, .bipush 57, 57, 0, 57), (57, .if_icmp .gt 9, 60, 66, 0), (60, .aload_n 0, 61, 0, 0), (61, .iload_n 1, 62, 0, 0), (62, .invokevirtual 45, 65, 0, 0), (65, .ireturn, 66, 0, 0), (66, .aload_n 0, 67, 0, 0), (67, .ldc 48, 69, 13, 0),
  (69, .iload_n 2, 70, 0, 0), (70, .i2c, 71, 0, 0), (71, .invokevirtual 50, 74, 0, 0), (74, .ifCond .lt 7, 77, 81, 0), (77, .iload_n 2, 78, 0, 0), (78, .goto 4, 81, 82, 0), (81, .iconst 1, 82, 0, 1), (82, .iconst 0, 83, 0, 0),
  (83, .iload_n 1, 84, 0, 0), (84, .iload_n 1, 85, 0, 0), (85, .iconst 1, 86, 0, 1), (86, .iadd, 87, 0, 0), (87, .invokevirtual 38, 90, 0, 0), (90, .ireturn, 91, 0, 0)]
abbrev M_X8_scanToken : MI := (yX8_scanToken, cX8_scanToken, 3, (some .int), 8, P_X8_scanToken)
theorem ok_X8_scanToken : okP 8 cX8_scanToken P_X8_scanToken = true := by decide +kernel
def P_X8_scanWord : List PE := [(0, .iload_n 1, 1, 0, 0), (1, .istore_n 2, 2, 0, 0), (2, .iload_n 2, 3, 0, 0), (3, .aload_n 0, 4, 0, 0), (4, .getfield 24, 7, 0, 0), (7, .if_icmp .ge 31, 10, 38, 0), (10, .aload_n 0, 11, 0, 0), (11, .getfield 9, 14, 0, 0),
  (14, .iload_n 2, 15, 0, 0), (15, .iaload, 16, 0, 0), (16, .bipush 97, 18, 0, 97), (18, .if_icmp .lt 20, 21, 38, 0), (21, .aload_n 0, 22, 0, 0), (22, .getfield 9, 25, 0, 0), (25, .iload_n 2, 26, 0, 0), (26, .iaload, 27, 0, 0),
  (27, .bipush 122, 29, 0, 122), (29, .if_icmp .gt 9, 32, 38, 0), (32, .iinc 2 1, 35, 0, 1), (35, .goto (-33), 38, 2, 0), (38, .iconst 0, 39, 0, 0), (39, .istore_n 3, 40, 0, 0), (40, .iload_n 3, 41, 0, 0), (41, .bipush 12, 43, 0, 12),
  (43, .if_icmp .ge 46, 46, 89, 0), (46, .aload_n 0, 47, 0, 0), (47, .iload_n 3, 48, 0, 0), (48, .invokestatic 55, 51, 0, 0), (51, .iload_n 1, 52, 0, 0), (52, .iload_n 2, 53, 0, 0), (53, .invokevirtual 59, 56, 0, 0), (56, .ifCond .eq 27, 59, 83, 0),
  (59, .aload_n 0, 60, 0, 0), (60, .iload_n 3, 61, 0, 0), (61, .bipush 6, 63, 0, 6), (63, .if_icmp .ge 7, 66, 70, 0), (66, .iconst 3, 67, 0, 3), (67, .goto 9, 70, 76, 0), (70, .iconst 4, 71, 0, 4), (71, .iload_n 3, 72, 0, 0),
  (72, .iadd, 73, 0, 0), (73, .bipush 6, 75, 0, 6), (75, .isub, 76, 0, 0), (76, .iload_n 3, 77, 0, 0), (77, .iload_n 1, 78, 0, 0), (78, .iload_n 2, 79, 0, 0), (79, .invokevirtual 38, 82, 0, 0), (82, .ireturn, 83, 0, 0),
  (83, .iinc 3 1, 86, 0, 1), (86, .goto (-46), 89, 40, 0), (89, .aload_n 0, 90, 0, 0), (90, .iconst 1, 91, 0, 1), (91, .iconst 0, 92, 0, 0), (92, .iload_n 1, 93, 0, 0), (93, .iload_n 2, 94, 0, 0), (94, .invokevirtual 38, 97, 0, 0),
  (97, .ireturn, 98, 0, 0)]
abbrev M_X8_scanWord : MI := (yX8_scanWord, cX8_scanWord, 4, (some .int), 8, P_X8_scanWord)
theorem ok_X8_scanWord : okP 8 cX8_scanWord P_X8_scanWord = true := by decide +kernel
def P_X8_scanNumber : List PE := [(0, .iload_n 1, 1, 0, 0), (1, .istore_n 2, 2, 0, 0), (2, .iconst 0, 3, 0, 0), (3, .istore_n 3, 4, 0, 0), (4, .iload_n 2, 5, 0, 0), (5, .aload_n 0, 6, 0, 0), (6, .getfield 24, 9, 0, 0), (9, .if_icmp .ge 46, 12, 55, 0),
  (12, .aload_n 0, 13, 0, 0), (13, .getfield 9, 16, 0, 0), (16, .iload_n 2, 17, 0, 0), (17, .iaload, 18, 0, 0), (18, .bipush 48, 20, 0, 48), (20, .if_icmp .lt 35, 23, 55, 0), (23, .aload_n 0, 24, 0, 0), (24, .getfield 9, 27, 0, 0),
  (27, .iload_n 2, 28, 0, 0), (28, .iaload, 29, 0, 0), (29, .bipush 57, 31, 0, 57), (31, .if_icmp .gt 24, 34, 55, 0), (34, .iload_n 3, 35, 0, 0), (35, .bipush 10, 37, 0, 10), (37, .imul, 38, 0, 0), (38, .aload_n 0, 39, 0, 0),
  (39, .getfield 9, 42, 0, 0), (42, .iload_n 2, 43, 0, 0), (43, .iaload, 44, 0, 0), (44, .iadd, 45, 0, 0), (45, .bipush 48, 47, 0, 48), (47, .isub, 48, 0, 0), (48, .istore_n 3, 49, 0, 0), (49, .iinc 2 1, 52, 0, 1),
  (52, .goto (-48), 55, 4, 0), (55, .aload_n 0, 56, 0, 0), (56, .iload_n 2, 57, 0, 0), (57, .iload_n 1, 58, 0, 0), (58, .isub, 59, 0, 0), (59, .iconst 4, 60, 0, 4), (60, .if_icmp .le 7, 63, 67, 0), (63, .iconst 1, 64, 0, 1),
  (64, .goto 4, 67, 68, 0), (67, .iconst 2, 68, 0, 2), (68, .iload_n 3, 69, 0, 0), (69, .iload_n 1, 70, 0, 0), (70, .iload_n 2, 71, 0, 0), (71, .invokevirtual 38, 74, 0, 0), (74, .ireturn, 75, 0, 0)]
abbrev M_X8_scanNumber : MI := (yX8_scanNumber, cX8_scanNumber, 4, (some .int), 8, P_X8_scanNumber)
theorem ok_X8_scanNumber : okP 8 cX8_scanNumber P_X8_scanNumber = true := by decide +kernel
def P_X8_addToken : List PE := [(0, .aload_n 0, 1, 0, 0), (1, .getfield 28, 4, 0, 0), (4, .sipush 160, 7, 0, 160), (7, .if_icmp .gt 43, 10, 50, 0), (10, .aload_n 0, 11, 0, 0), (11, .getfield 15, 14, 0, 0), (14, .aload_n 0, 15, 0, 0), (15, .getfield 28, 18, 0, 0),
  (18, .iload_n 1, 19, 0, 0), (19, .iastore, 20, 0, 0), (20, .aload_n 0, 21, 0, 0), (21, .getfield 18, 24, 0, 0), (24, .aload_n 0, 25, 0, 0), (25, .getfield 28, 28, 0, 0), (28, .iload_n 2, 29, 0, 0), (29, .iastore, 30, 0, 0),
  (30, .aload_n 0, 31, 0, 0), (31, .getfield 21, 34, 0, 0), (34, .aload_n 0, 35, 0, 0), (35, .getfield 28, 38, 0, 0), (38, .iload_n 3, 39, 0, 0), (39, .iastore, 40, 0, 0), (40, .aload_n 0, 41, 0, 0), (41, .dup, 42, 0, 0),
  (42, .getfield 28, 45, 0, 0), (45, .iconst 1, 46, 0, 1), (46, .iadd, 47, 0, 0), (47, .putfield 28, 50, 0, 0), (50, .iload 4, 52, 0, 0), (52, .ireturn, 53, 0, 0)]
abbrev M_X8_addToken : MI := (yX8_addToken, cX8_addToken, 5, (some .int), 8, P_X8_addToken)
theorem ok_X8_addToken : okP 8 cX8_addToken P_X8_addToken = true := by decide +kernel
def P_X8_isSpelled : List PE := [(0, .aload_n 1, 1, 0, 0), (1, .invokevirtual 63, 4, 0, 0), (4, .iload_n 3, 5, 0, 0), (5, .iload_n 2, 6, 0, 0), (6, .isub, 7, 0, 0), (7, .if_icmp .eq 5, 10, 12, 0), (10, .iconst 0, 11, 0, 0), (11, .ireturn, 12, 0, 0),
  (12, .iconst 0, 13, 0, 0), (13, .istore 4, 15, 0, 0), (15, .iload 4, 17, 0, 0), (17, .aload_n 1, 18, 0, 0), (18, .invokevirtual 63, 21, 0, 0), (21, .if_icmp .ge 29, 24, 50, 0), (24, .aload_n 0, 25, 0, 0), (25, .getfield 9, 28, 0, 0),
  (28, .iload_n 2, 29, 0, 0), (29, .iload 4, 31, 0, 0), (31, .iadd, 32, 0, 0), (32, .iaload, 33, 0, 0), (33, .aload_n 1, 34, 0, 0), (34, .iload 4, 36, 0, 0), (36, .invokevirtual 67, 39, 0, 0), (39, .if_icmp .eq 5, 42, 44, 0),
  (42, .iconst 0, 43, 0, 0), (43, .ireturn, 44, 0, 0), (44, .iinc 4 1, 47, 0, 1), (47, .goto (-32), 50, 15, 0), (50, .iconst 1, 51, 0, 1), (51, .ireturn, 52, 0, 0)]
abbrev M_X8_isSpelled : MI := (yX8_isSpelled, cX8_isSpelled, 5, (some .boolean), 8, P_X8_isSpelled)
theorem ok_X8_isSpelled : okP 8 cX8_isSpelled P_X8_isSpelled = true := by decide +kernel
def P_X8_spelling : List PE := [(0, .iload_n 0, 1, 0, 0), (1, .tableswitch 92 0 10 #[59, 62, 65, 68, 71, 74, 77, 80, 83, 86, 89], 60, 0, 0), (60, .ldc 71, 62, 1, 0), (62, .areturn, 63, 0, 0), (63, .ldc 73, 65, 2, 0), (65, .areturn, 66, 0, 0), (66, .ldc 75, 68, 3, 0), (68, .areturn, 69, 0, 0),
  (69, .ldc 77, 71, 4, 0), (71, .areturn, 72, 0, 0), (72, .ldc 79, 74, 5, 0), (74, .areturn, 75, 0, 0), (75, .ldc 81, 77, 6, 0), (77, .areturn, 78, 0, 0), (78, .ldc 83, 80, 7, 0), (80, .areturn, 81, 0, 0),
  (81, .ldc 85, 83, 8, 0), (83, .areturn, 84, 0, 0), (84, .ldc 87, 86, 9, 0), (86, .areturn, 87, 0, 0), (87, .ldc 89, 89, 10, 0), (89, .areturn, 90, 0, 0), (90, .ldc 91, 92, 11, 0), (92, .areturn, 93, 0, 0),
  (93, .ldc 93, 95, 12, 0), (95, .areturn, 96, 0, 0)]
abbrev M_X8_spelling : MI := (yX8_spelling, cX8_spelling, 1, (some (.object "java/lang/String")), 8, P_X8_spelling)
theorem ok_X8_spelling : okP 8 cX8_spelling P_X8_spelling = true := by decide +kernel
def P_X9_empty : List PE := [(0, .aload_n 0, 1, 0, 0), (1, .iconst 0, 2, 0, 0), (2, .putfield 27, 5, 0, 0), (5, .return_, 6, 0, 0)]
abbrev M_X9_empty : MI := (yX9_empty, cX9_empty, 1, none, 9, P_X9_empty)
theorem ok_X9_empty : okP 9 cX9_empty P_X9_empty = true := by decide +kernel
def P_X9_add : List PE := [(0, .aload_n 0, 1, 0, 0), (1, .getfield 27, 4, 0, 0), (4, .sipush 160, 7, 0, 160), (7, .if_icmp .lt 5, 10, 12, 0), (10, .iconst (-1), 11, 0, (-1)), (11, .ireturn, 12, 0, 0), (12, .aload_n 0, 13, 0, 0), (13, .getfield 9, 16, 0, 0),
  (16, .aload_n 0, 17, 0, 0), (17, .getfield 27, 20, 0, 0), (20, .iload_n 1, 21, 0, 0), (21, .iastore, 22, 0, 0), (22, .aload_n 0, 23, 0, 0), (23, .getfield 15, 26, 0, 0), (26, .aload_n 0, 27, 0, 0), (27, .getfield 27, 30, 0, 0),
  (30, .iload_n 2, 31, 0, 0), (31, .iastore, 32, 0, 0), (32, .aload_n 0, 33, 0, 0), (33, .getfield 18, 36, 0, 0), (36, .aload_n 0, 37, 0, 0), (37, .getfield 27, 40, 0, 0), (40, .iload_n 3, 41, 0, 0), (41, .iastore, 42, 0, 0),
  (42, .aload_n 0, 43, 0, 0), (43, .dup, 44, 0, 0), (44, .getfield 27, 47, 0, 0), (47, .iconst 1, 48, 0, 1), (48, .iadd, 49, 0, 0), (49, .putfield 27, 52, 0, 0), (52, .aload_n 0, 53, 0, 0), (53, .getfield 27, 56, 0, 0),
  (56, .iconst 1, 57, 0, 1), (57, .isub, 58, 0, 0), (58, .ireturn, 59, 0, 0)]
abbrev M_X9_add : MI := (yX9_add, cX9_add, 4, (some .int), 9, P_X9_add)
theorem ok_X9_add : okP 9 cX9_add P_X9_add = true := by decide +kernel
def P_X9_endPart : List PE := [(0, .aload_n 0, 1, 0, 0), (1, .getfield 24, 4, 0, 0), (4, .iload_n 1, 5, 0, 0), (5, .aload_n 0, 6, 0, 0), (6, .getfield 27, 9, 0, 0), (9, .iastore, 10, 0, 0), (10, .return_, 11, 0, 0)]
abbrev M_X9_endPart : MI := (yX9_endPart, cX9_endPart, 2, none, 9, P_X9_endPart)
theorem ok_X9_endPart : okP 9 cX9_endPart P_X9_endPart = true := by decide +kernel
def P_X9_tells : List PE := [(0, .iconst 0, 1, 0, 0), (1, .istore_n 3, 2, 0, 0), (2, .iload_n 1, 3, 0, 0), (3, .ifCond .ne 7, 6, 10, 0), (6, .iconst 0, 7, 0, 0), (7, .goto 11, 10, 18, 0), (10, .aload_n 0, 11, 0, 0), (11, .getfield 24, 14, 0, 0),
  (14, .iload_n 1, 15, 0, 0), (15, .iconst 1, 16, 0, 1), (16, .isub, 17, 0, 0), (17, .iaload, 18, 0, 0), (18, .istore 4, 20, 0, 0), (20, .iload 4, 22, 0, 0), (22, .aload_n 0, 23, 0, 0), (23, .getfield 24, 26, 0, 0),
  (26, .iload_n 1, 27, 0, 0), (27, .iaload, 28, 0, 0), (28, .if_icmp .ge 44, 31, 72, 0), (31, .aload_n 0, 32, 0, 0), (32, .aload_n 0, 33, 0, 0), (33, .getfield 9, 36, 0, 0), (36, .iload 4, 38, 0, 0), (38, .iaload, 39, 0, 0),
  (39, .aload_n 0, 40, 0, 0), (40, .getfield 15, 43, 0, 0), (43, .iload 4, 45, 0, 0), (45, .iaload, 46, 0, 0), (46, .aload_n 0, 47, 0, 0), (47, .getfield 18, 50, 0, 0), (50, .iload 4, 52, 0, 0), (52, .iaload, 53, 0, 0),
  (53, .aload_n 2, 54, 0, 0), (54, .invokevirtual 31, 57, 0, 0), (57, .istore_n 3, 58, 0, 0), (58, .aload_n 0, 59, 0, 0), (59, .getfield 21, 62, 0, 0), (62, .iload 4, 64, 0, 0), (64, .iload_n 3, 65, 0, 0), (65, .iastore, 66, 0, 0),
  (66, .iinc 4 1, 69, 0, 1), (69, .goto (-49), 72, 20, 0), (72, .iconst 0, 73, 0, 0), (73, .bipush 99, 75, 0, 99), (75, .iload_n 3, 76, 0, 0), (76, .invokestatic 35, 79, 0, 0), (79, .invokestatic 41, 82, 0, 0), (82, .ireturn, 83, 0, 0)]
abbrev M_X9_tells : MI := (yX9_tells, cX9_tells, 5, (some .int), 9, P_X9_tells)
theorem ok_X9_tells : okP 9 cX9_tells P_X9_tells = true := by decide +kernel
def P_X9_worked : List PE := [(0, .iload_n 1, 1, 0, 0), (1, .tableswitch 209 0 9 #[55, 57, 62, 86, 110, 125, 146, 167, 181, 195], 56, 0, 0), (56, .iload_n 2, 57, 0, 0), (57, .ireturn, 58, 0, 0), (58, .aload 4, 60, 0, 0), (60, .iload_n 2, 61, 0, 0), (61, .iaload, 62, 0, 0), (62, .ireturn, 63, 0, 0),
  (63, .aload_n 0, 64, 0, 0), (64, .getfield 21, 67, 0, 0), (67, .iload_n 2, 68, 0, 0), (68, .iaload, 69, 0, 0), (69, .ifCond .ne 12, 72, 81, 0), (72, .aload_n 0, 73, 0, 0), (73, .getfield 21, 76, 0, 0), (76, .iload_n 3, 77, 0, 0),
  (77, .iaload, 78, 0, 0), (78, .ifCond .eq 7, 81, 85, 0), (81, .iconst 1, 82, 0, 1), (82, .goto 4, 85, 86, 0), (85, .iconst 0, 86, 0, 0), (86, .ireturn, 87, 0, 0), (87, .aload_n 0, 88, 0, 0), (88, .getfield 21, 91, 0, 0),
  (91, .iload_n 2, 92, 0, 0), (92, .iaload, 93, 0, 0), (93, .ifCond .eq 16, 96, 109, 0), (96, .aload_n 0, 97, 0, 0), (97, .getfield 21, 100, 0, 0), (100, .iload_n 3, 101, 0, 0), (101, .iaload, 102, 0, 0), (102, .ifCond .eq 7, 105, 109, 0),
  (105, .iconst 1, 106, 0, 1), (106, .goto 4, 109, 110, 0), (109, .iconst 0, 110, 0, 0), (110, .ireturn, 111, 0, 0), (111, .aload_n 0, 112, 0, 0), (112, .getfield 21, 115, 0, 0), (115, .iload_n 2, 116, 0, 0), (116, .iaload, 117, 0, 0),
  (117, .ifCond .ne 7, 120, 124, 0), (120, .iconst 1, 121, 0, 1), (121, .goto 4, 124, 125, 0), (124, .iconst 0, 125, 0, 0), (125, .ireturn, 126, 0, 0), (126, .aload_n 0, 127, 0, 0), (127, .getfield 21, 130, 0, 0), (130, .iload_n 2, 131, 0, 0),
  (131, .iaload, 132, 0, 0), (132, .aload_n 0, 133, 0, 0), (133, .getfield 21, 136, 0, 0), (136, .iload_n 3, 137, 0, 0), (137, .iaload, 138, 0, 0), (138, .if_icmp .ge 7, 141, 145, 0), (141, .iconst 1, 142, 0, 1), (142, .goto 4, 145, 146, 0),
  (145, .iconst 0, 146, 0, 0), (146, .ireturn, 147, 0, 0), (147, .aload_n 0, 148, 0, 0), (148, .getfield 21, 151, 0, 0), (151, .iload_n 2, 152, 0, 0), (152, .iaload, 153, 0, 0), (153, .aload_n 0, 154, 0, 0), (154, .getfield 21, 157, 0, 0),
  (157, .iload_n 3, 158, 0, 0), (158, .iaload, 159, 0, 0), (159, .if_icmp .ne 7, 162, 166, 0), (162, .iconst 1, 163, 0, 1), (163, .goto 4, 166, 167, 0), (166, .iconst 0, 167, 0, 0), (167, .ireturn, 168, 0, 0), (168, .aload_n 0, 169, 0, 0),
  (169, .getfield 21, 172, 0, 0), (172, .iload_n 2, 173, 0, 0), (173, .iaload, 174, 0, 0), (174, .aload_n 0, 175, 0, 0), (175, .getfield 21, 178, 0, 0), (178, .iload_n 3, 179, 0, 0), (179, .iaload, 180, 0, 0), (180, .iadd, 181, 0, 0),
  (181, .ireturn, 182, 0, 0), (182, .aload_n 0, 183, 0, 0), (183, .getfield 21, 186, 0, 0), (186, .iload_n 2, 187, 0, 0), (187, .iaload, 188, 0, 0), (188, .aload_n 0, 189, 0, 0), (189, .getfield 21, 192, 0, 0), (192, .iload_n 3, 193, 0, 0),
  (193, .iaload, 194, 0, 0), (194, .isub, 195, 0, 0), (195, .ireturn, 196, 0, 0), (196, .aload_n 0, 197, 0, 0), (197, .getfield 21, 200, 0, 0), (200, .iload_n 2, 201, 0, 0), (201, .iaload, 202, 0, 0), (202, .aload_n 0, 203, 0, 0),
  (203, .getfield 21, 206, 0, 0), (206, .iload_n 3, 207, 0, 0), (207, .iaload, 208, 0, 0), (208, .imul, 209, 0, 0), (209, .ireturn, 210, 0, 0), (210, .aload_n 0, 211, 0, 0), (211, .getfield 21, 214, 0, 0), (214, .iload_n 2, 215, 0, 0),
  (215, .iaload, 216, 0, 0), (216, .ineg, 217, 0, 0), (217, .ireturn, 218, 0, 0)]
abbrev M_X9_worked : MI := (yX9_worked, cX9_worked, 5, (some .int), 9, P_X9_worked)
theorem ok_X9_worked : okP 9 cX9_worked P_X9_worked = true := by decide +kernel
end
section
def P_X10_learn : List PE := [(0, .iload_n 1, 1, 0, 0), (1, .invokestatic 109, 4, 0, 0), (4, .ifCond .eq 12, 7, 16, 0), (7, .iload_n 2, 8, 0, 0), (8, .bipush 99, 10, 0, 99), (10, .invokestatic 113, 13, 0, 0), (13, .ifCond .ne 6, 16, 19, 0), (16, .bipush (-2), 18, 0, (-2)),
  (18, .ireturn, 19, 0, 0), (19, .aload_n 0, 20, 0, 0), (20, .getfield 41, 23, 0, 0), (23, .iload_n 1, 24, 0, 0), (24, .aaload, 25, 0, 0), (25, .astore_n 3, 26, 0, 0), (26, .aload_n 3, 27, 0, 0), (27, .invokevirtual 117, 30, 0, 0),
  (30, .ifCond .eq 6, 33, 36, 0), (33, .bipush (-11), 35, 0, (-11)), (35, .ireturn, 36, 0, 0), (36, .aload_n 3, 37, 0, 0), (37, .invokevirtual 121, 40, 0, 0), (40, .ifCond .ne 6, 43, 46, 0), (43, .bipush (-2), 45, 0, (-2)), (45, .ireturn, 46, 0, 0),
  (46, .aload_n 0, 47, 0, 0), (47, .getfield 10, 50, 0, 0), (50, .getfield 124, 53, 0, 0), (53, .bipush 8, 55, 0, 8), (55, .if_icmp .ne 8, 58, 63, 0), (58, .bipush (-4), 60, 0, (-4)), (60, .goto 12, 63, 72, 0), (63, .aload_n 0, 64, 0, 0),
  (64, .getfield 10, 67, 0, 0), (67, .aload_n 3, 68, 0, 0), (68, .iload_n 2, 69, 0, 0), (69, .invokevirtual 127, 72, 0, 0), (72, .ireturn, 73, 0, 0)]
abbrev M_X10_learn : MI := (yX10_learn, cX10_learn, 4, (some .int), 10, P_X10_learn)
theorem ok_X10_learn : okP 10 cX10_learn P_X10_learn = true := by decide +kernel
def P_X10_rule : List PE := [(0, .iload_n 1, 1, 0, 0), (1, .iload_n 2, 2, 0, 0), (2, .iload_n 3, 3, 0, 0), (3, .invokestatic 131, 6, 0, 0), (6, .ifCond .ne 6, 9, 12, 0), (9, .bipush (-2), 11, 0, (-2)), (11, .ireturn, 12, 0, 0), (12, .aload_n 0, 13, 0, 0),
  (13, .getfield 10, 16, 0, 0), (16, .getfield 135, 19, 0, 0), (19, .bipush 6, 21, 0, 6), (21, .if_icmp .ne 8, 24, 29, 0), (24, .bipush (-4), 26, 0, (-4)), (26, .goto 13, 29, 39, 0), (29, .aload_n 0, 30, 0, 0), (30, .getfield 10, 33, 0, 0),
  (33, .iload_n 1, 34, 0, 0), (34, .iload_n 2, 35, 0, 0), (35, .iload_n 3, 36, 0, 0), (36, .invokevirtual 138, 39, 0, 0), (39, .ireturn, 40, 0, 0)]
abbrev M_X10_rule : MI := (yX10_rule, cX10_rule, 4, (some .int), 10, P_X10_rule)
theorem ok_X10_rule : okP 10 cX10_rule P_X10_rule = true := by decide +kernel
def P_X10_then : List PE := [(0, .aload_n 0, 1, 0, 0), (1, .getfield 10, 4, 0, 0), (4, .iload_n 1, 5, 0, 0), (5, .invokevirtual 142, 8, 0, 0), (8, .ifCond .ne 6, 11, 14, 0), (11, .bipush (-2), 13, 0, (-2)), (13, .ireturn, 14, 0, 0), (14, .aload_n 0, 15, 0, 0),
  (15, .getfield 10, 18, 0, 0), (18, .getfield 145, 21, 0, 0), (21, .getfield 148, 24, 0, 0), (24, .bipush 8, 26, 0, 8), (26, .if_icmp .ne 6, 29, 32, 0), (29, .bipush (-4), 31, 0, (-4)), (31, .ireturn, 32, 0, 0), (32, .aload_n 0, 33, 0, 0),
  (33, .getfield 10, 36, 0, 0), (36, .getfield 145, 39, 0, 0), (39, .iload_n 1, 40, 0, 0), (40, .invokevirtual 149, 43, 0, 0), (43, .aload_n 0, 44, 0, 0), (44, .getfield 10, 47, 0, 0), (47, .getfield 145, 50, 0, 0), (50, .getfield 148, 53, 0, 0),
  (53, .ireturn, 54, 0, 0)]
abbrev M_X10_then : MI := (yX10_then, cX10_then, 2, (some .int), 10, P_X10_then)
theorem ok_X10_then : okP 10 cX10_then P_X10_then = true := by decide +kernel
def P_X10_clear : List PE := [(0, .aload_n 0, 1, 0, 0), (1, .getfield 10, 4, 0, 0), (4, .getfield 145, 7, 0, 0), (7, .getfield 148, 10, 0, 0), (10, .istore_n 1, 11, 0, 0), (11, .aload_n 0, 12, 0, 0), (12, .getfield 10, 15, 0, 0), (15, .getfield 145, 18, 0, 0),
  (18, .iconst 0, 19, 0, 0), (19, .putfield 148, 22, 0, 0), (22, .iload_n 1, 23, 0, 0), (23, .ireturn, 24, 0, 0)]
abbrev M_X10_clear : MI := (yX10_clear, cX10_clear, 2, (some .int), 10, P_X10_clear)
theorem ok_X10_clear : okP 10 cX10_clear P_X10_clear = true := by decide +kernel
def P_X10_set : List PE := [(0, .aload_n 0, 1, 0, 0), (1, .getfield 10, 4, 0, 0), (4, .iload_n 1, 5, 0, 0), (5, .iload_n 2, 6, 0, 0), (6, .invokevirtual 152, 9, 0, 0), (9, .ifCond .eq 15, 12, 24, 0), (12, .aload_n 0, 13, 0, 0), (13, .getfield 10, 16, 0, 0),
  (16, .iload_n 1, 17, 0, 0), (17, .iload_n 3, 18, 0, 0), (18, .invokevirtual 155, 21, 0, 0), (21, .ifCond .ne 6, 24, 27, 0), (24, .bipush (-100), 26, 0, (-100)), (26, .ireturn, 27, 0, 0), (27, .aload_n 0, 28, 0, 0), (28, .getfield 10, 31, 0, 0),
  (31, .iload_n 1, 32, 0, 0), (32, .iload_n 2, 33, 0, 0), (33, .invokevirtual 158, 36, 0, 0), (36, .istore 4, 38, 0, 0), (38, .aload_n 0, 39, 0, 0), (39, .getfield 10, 42, 0, 0), (42, .iload_n 1, 43, 0, 0), (43, .iload_n 2, 44, 0, 0),
  (44, .iload_n 3, 45, 0, 0), (45, .invokevirtual 162, 48, 0, 0), (48, .iload 4, 50, 0, 0), (50, .ireturn, 51, 0, 0)]
abbrev M_X10_set : MI := (yX10_set, cX10_set, 5, (some .int), 10, P_X10_set)
theorem ok_X10_set : okP 10 cX10_set P_X10_set = true := by decide +kernel
def P_X10_told : List PE := [(0, .iload_n 2, 1, 0, 0), (1, .bipush 10, 3, 0, 10), (3, .if_icmp .lt 38, 6, 41, 0), (6, .iload_n 2, 7, 0, 0), (7, .bipush 20, 9, 0, 20), (9, .if_icmp .ge 32, 12, 41, 0), (12, .aload_n 0, 13, 0, 0), (13, .getfield 10, 16, 0, 0),
  (16, .iload_n 1, 17, 0, 0), (17, .invokevirtual 166, 20, 0, 0), (20, .ifCond .eq 18, 23, 38, 0), (23, .aload_n 0, 24, 0, 0), (24, .getfield 10, 27, 0, 0), (27, .iload_n 1, 28, 0, 0), (28, .iload_n 2, 29, 0, 0), (29, .bipush 10, 31, 0, 10),
  (31, .isub, 32, 0, 0), (32, .invokevirtual 169, 35, 0, 0), (35, .goto 5, 38, 40, 0), (38, .bipush (-100), 40, 0, (-100)), (40, .ireturn, 41, 0, 0), (41, .iload_n 2, 42, 0, 0), (42, .lookupswitch 78 #[(5, 26), (6, 52)], 68, 0, 0), (68, .aload_n 0, 69, 0, 0),
  (69, .getfield 10, 72, 0, 0), (72, .iload_n 1, 73, 0, 0), (73, .invokevirtual 142, 76, 0, 0), (76, .ifCond .eq 15, 79, 91, 0), (79, .aload_n 0, 80, 0, 0), (80, .getfield 10, 83, 0, 0), (83, .getfield 172, 86, 0, 0), (86, .iload_n 1, 87, 0, 0),
  (87, .iaload, 88, 0, 0), (88, .goto 5, 91, 93, 0), (91, .bipush (-100), 93, 0, (-100)), (93, .ireturn, 94, 0, 0), (94, .aload_n 0, 95, 0, 0), (95, .getfield 10, 98, 0, 0), (98, .iload_n 1, 99, 0, 0), (99, .invokevirtual 166, 102, 0, 0),
  (102, .ifCond .eq 15, 105, 117, 0), (105, .aload_n 0, 106, 0, 0), (106, .getfield 10, 109, 0, 0), (109, .getfield 176, 112, 0, 0), (112, .iload_n 1, 113, 0, 0), (113, .iaload, 114, 0, 0), (114, .goto 5, 117, 119, 0), (117, .bipush (-100), 119, 0, (-100)),
  (119, .ireturn, 120, 0, 0), (120, .aload_n 0, 121, 0, 0), (121, .getfield 10, 124, 0, 0), (124, .iload_n 2, 125, 0, 0), (125, .iload_n 1, 126, 0, 0), (126, .invokevirtual 152, 129, 0, 0), (129, .ifCond .eq 15, 132, 144, 0), (132, .aload_n 0, 133, 0, 0),
  (133, .getfield 10, 136, 0, 0), (136, .iload_n 2, 137, 0, 0), (137, .iload_n 1, 138, 0, 0), (138, .invokevirtual 158, 141, 0, 0), (141, .goto 5, 144, 146, 0), (144, .bipush (-100), 146, 0, (-100)), (146, .ireturn, 147, 0, 0)]
abbrev M_X10_told : MI := (yX10_told, cX10_told, 3, (some .int), 10, P_X10_told)
theorem ok_X10_told : okP 10 cX10_told P_X10_told = true := by decide +kernel
def P_X10_feed : List PE := [(0, .iload_n 1, 1, 0, 0), (1, .sipush 255, 4, 0, 255), (4, .invokestatic 113, 7, 0, 0), (7, .ifCond .ne 6, 10, 13, 0), (10, .bipush (-2), 12, 0, (-2)), (12, .ireturn, 13, 0, 0), (13, .aload_n 0, 14, 0, 0), (14, .getfield 28, 17, 0, 0),
  (17, .getfield 102, 20, 0, 0), (20, .sipush 160, 23, 0, 160), (23, .if_icmp .ne 6, 26, 29, 0), (26, .bipush (-4), 28, 0, (-4)), (28, .ireturn, 29, 0, 0), (29, .aload_n 0, 30, 0, 0), (30, .getfield 28, 33, 0, 0), (33, .iload_n 1, 34, 0, 0),
  (34, .invokevirtual 94, 37, 0, 0), (37, .aload_n 0, 38, 0, 0), (38, .getfield 28, 41, 0, 0), (41, .getfield 102, 44, 0, 0), (44, .ireturn, 45, 0, 0)]
abbrev M_X10_feed : MI := (yX10_feed, cX10_feed, 2, (some .int), 10, P_X10_feed)
theorem ok_X10_feed : okP 10 cX10_feed P_X10_feed = true := by decide +kernel
def P_X10_text : List PE := [(0, .aload_n 0, 1, 0, 0), (1, .getfield 106, 4, 0, 0), (4, .bipush 6, 6, 0, 6), (6, .if_icmp .ne 6, 9, 12, 0), (9, .bipush (-4), 11, 0, (-4)), (11, .ireturn, 12, 0, 0), (12, .aload_n 0, 13, 0, 0), (13, .getfield 35, 16, 0, 0),
  (16, .aload_n 0, 17, 0, 0), (17, .getfield 28, 20, 0, 0), (20, .aload_n 0, 21, 0, 0), (21, .getfield 21, 24, 0, 0), (24, .aload_n 0, 25, 0, 0), (25, .getfield 106, 28, 0, 0), (28, .aaload, 29, 0, 0), (29, .invokevirtual 98, 32, 0, 0),
  (32, .istore_n 1, 33, 0, 0), (33, .aload_n 0, 34, 0, 0), (34, .getfield 28, 37, 0, 0), (37, .iconst 0, 38, 0, 0), (38, .putfield 102, 41, 0, 0), (41, .iload_n 1, 42, 0, 0), (42, .iconst (-1), 43, 0, (-1)), (43, .if_icmp .eq 8, 46, 51, 0),
  (46, .bipush (-100), 48, 0, (-100)), (48, .iload_n 1, 49, 0, 0), (49, .isub, 50, 0, 0), (50, .ireturn, 51, 0, 0), (51, .aload_n 0, 52, 0, 0), (52, .dup, 53, 0, 0), (53, .getfield 106, 56, 0, 0), (56, .iconst 1, 57, 0, 1),
  (57, .iadd, 58, 0, 0), (58, .putfield 106, 61, 0, 0), (61, .aload_n 0, 62, 0, 0), (62, .getfield 106, 65, 0, 0), (65, .iconst 1, 66, 0, 1), (66, .isub, 67, 0, 0), (67, .ireturn, 68, 0, 0)]
abbrev M_X10_text : MI := (yX10_text, cX10_text, 2, (some .int), 10, P_X10_text)
theorem ok_X10_text : okP 10 cX10_text P_X10_text = true := by decide +kernel
def P_X10_force : List PE := [(0, .iload_n 1, 1, 0, 0), (1, .ifCond .lt 11, 4, 12, 0), (4, .iload_n 1, 5, 0, 0), (5, .aload_n 0, 6, 0, 0), (6, .getfield 106, 9, 0, 0), (9, .if_icmp .lt 6, 12, 15, 0), (12, .bipush (-2), 14, 0, (-2)), (14, .ireturn, 15, 0, 0),
  (15, .aload_n 0, 16, 0, 0), (16, .getfield 10, 19, 0, 0), (19, .getfield 179, 22, 0, 0), (22, .istore_n 2, 23, 0, 0), (23, .aload_n 0, 24, 0, 0), (24, .getfield 10, 27, 0, 0), (27, .iload_n 1, 28, 0, 0), (28, .putfield 179, 31, 0, 0),
  (31, .iload_n 2, 32, 0, 0), (32, .ireturn, 33, 0, 0)]
abbrev M_X10_force : MI := (yX10_force, cX10_force, 3, (some .int), 10, P_X10_force)
theorem ok_X10_force : okP 10 cX10_force P_X10_force = true := by decide +kernel
def P_X10_said : List PE := [(0, .aload_n 0, 1, 0, 0), (1, .getfield 10, 4, 0, 0), (4, .iload_n 1, 5, 0, 0), (5, .invokevirtual 166, 8, 0, 0), (8, .ifCond .eq 10, 11, 18, 0), (11, .iload_n 2, 12, 0, 0), (12, .invokestatic 182, 15, 0, 0), (15, .ifCond .ne 6, 18, 21, 0),
  (18, .bipush (-2), 20, 0, (-2)), (20, .ireturn, 21, 0, 0), (21, .aload_n 0, 22, 0, 0), (22, .getfield 55, 25, 0, 0), (25, .aload_n 0, 26, 0, 0), (26, .getfield 10, 29, 0, 0), (29, .aload_n 0, 30, 0, 0), (30, .getfield 10, 33, 0, 0),
  (33, .getfield 145, 36, 0, 0), (36, .iload_n 1, 37, 0, 0), (37, .invokevirtual 185, 40, 0, 0), (40, .aload_n 0, 41, 0, 0), (41, .getfield 55, 44, 0, 0), (44, .iload_n 2, 45, 0, 0), (45, .invokevirtual 189, 48, 0, 0), (48, .ireturn, 49, 0, 0)]
abbrev M_X10_said : MI := (yX10_said, cX10_said, 3, (some .int), 10, P_X10_said)
theorem ok_X10_said : okP 10 cX10_said P_X10_said = true := by decide +kernel
def P_X10_turned : List PE := [(0, .aload_n 0, 1, 0, 0), (1, .getfield 10, 4, 0, 0), (4, .iload_n 1, 5, 0, 0), (5, .invokevirtual 166, 8, 0, 0), (8, .ifCond .eq 21, 11, 29, 0), (11, .aload_n 0, 12, 0, 0), (12, .getfield 10, 15, 0, 0), (15, .iload_n 2, 16, 0, 0),
  (16, .invokevirtual 142, 19, 0, 0), (19, .ifCond .eq 10, 22, 29, 0), (22, .iload_n 3, 23, 0, 0), (23, .invokestatic 182, 26, 0, 0), (26, .ifCond .ne 6, 29, 32, 0), (29, .bipush (-2), 31, 0, (-2)), (31, .ireturn, 32, 0, 0), (32, .aload_n 0, 33, 0, 0),
  (33, .getfield 55, 36, 0, 0), (36, .aload_n 0, 37, 0, 0), (37, .getfield 10, 40, 0, 0), (40, .iload_n 2, 41, 0, 0), (41, .iload_n 1, 42, 0, 0), (42, .invokevirtual 193, 45, 0, 0), (45, .aload_n 0, 46, 0, 0), (46, .getfield 55, 49, 0, 0),
  (49, .iload_n 3, 50, 0, 0), (50, .invokevirtual 189, 53, 0, 0), (53, .ireturn, 54, 0, 0)]
abbrev M_X10_turned : MI := (yX10_turned, cX10_turned, 4, (some .int), 10, P_X10_turned)
theorem ok_X10_turned : okP 10 cX10_turned P_X10_turned = true := by decide +kernel
def P_X10_of : List PE := [(0, .aload_n 0, 1, 0, 0), (1, .getfield 10, 4, 0, 0), (4, .iload_n 1, 5, 0, 0), (5, .invokevirtual 166, 8, 0, 0), (8, .ifCond .ne 6, 11, 14, 0), (11, .bipush (-2), 13, 0, (-2)), (13, .ireturn, 14, 0, 0), (14, .iload_n 2, 15, 0, 0),
  (15, .tableswitch 52 0 4 #[33, 33, 33, 40, 46], 48, 0, 0), (48, .aload_n 0, 49, 0, 0), (49, .iload_n 1, 50, 0, 0), (50, .iload_n 2, 51, 0, 0), (51, .invokevirtual 197, 54, 0, 0), (54, .ireturn, 55, 0, 0), (55, .aload_n 0, 56, 0, 0), (56, .iload_n 1, 57, 0, 0),
  (57, .invokevirtual 200, 60, 0, 0), (60, .ireturn, 61, 0, 0), (61, .aload_n 0, 62, 0, 0), (62, .iload_n 1, 63, 0, 0), (63, .invokevirtual 203, 66, 0, 0), (66, .ireturn, 67, 0, 0), (67, .bipush (-2), 69, 0, (-2)), (69, .ireturn, 70, 0, 0)]
abbrev M_X10_of : MI := (yX10_of, cX10_of, 3, (some .int), 10, P_X10_of)
theorem ok_X10_of : okP 10 cX10_of P_X10_of = true := by decide +kernel
def P_X10_all : List PE := [(0, .iload_n 1, 1, 0, 0), (1, .tableswitch 130 0 4 #[35, 47, 73, 99, 104], 36, 0, 0), (36, .aload_n 0, 37, 0, 0), (37, .aload_n 0, 38, 0, 0), (38, .getfield 10, 41, 0, 0), (41, .getfield 145, 44, 0, 0), (44, .invokevirtual 206, 47, 0, 0), (47, .ireturn, 48, 0, 0),
  (48, .aload_n 0, 49, 0, 0), (49, .getfield 48, 52, 0, 0), (52, .aload_n 0, 53, 0, 0), (53, .getfield 10, 56, 0, 0), (56, .aload_n 0, 57, 0, 0), (57, .getfield 10, 60, 0, 0), (60, .getfield 145, 63, 0, 0), (63, .invokevirtual 210, 66, 0, 0),
  (66, .aload_n 0, 67, 0, 0), (67, .getfield 48, 70, 0, 0), (70, .invokevirtual 214, 73, 0, 0), (73, .ireturn, 74, 0, 0), (74, .aload_n 0, 75, 0, 0), (75, .getfield 48, 78, 0, 0), (78, .aload_n 0, 79, 0, 0), (79, .getfield 10, 82, 0, 0),
  (82, .aload_n 0, 83, 0, 0), (83, .getfield 10, 86, 0, 0), (86, .getfield 145, 89, 0, 0), (89, .invokevirtual 210, 92, 0, 0), (92, .aload_n 0, 93, 0, 0), (93, .getfield 48, 96, 0, 0), (96, .invokevirtual 217, 99, 0, 0), (99, .ireturn, 100, 0, 0),
  (100, .aload_n 0, 101, 0, 0), (101, .invokevirtual 220, 104, 0, 0), (104, .ireturn, 105, 0, 0), (105, .aload_n 0, 106, 0, 0), (106, .getfield 48, 109, 0, 0), (109, .aload_n 0, 110, 0, 0), (110, .getfield 10, 113, 0, 0), (113, .aload_n 0, 114, 0, 0),
  (114, .getfield 10, 117, 0, 0), (117, .getfield 145, 120, 0, 0), (120, .invokevirtual 210, 123, 0, 0), (123, .aload_n 0, 124, 0, 0), (124, .getfield 48, 127, 0, 0), (127, .invokevirtual 223, 130, 0, 0), (130, .ireturn, 131, 0, 0), (131, .ldc 226, 133, 999, (-100000)),
  (133, .ireturn, 134, 0, 0)]
abbrev M_X10_all : MI := (yX10_all, cX10_all, 2, (some .int), 10, P_X10_all)
theorem ok_X10_all : okP 10 cX10_all P_X10_all = true := by decide +kernel
def P_X10_leave : List PE := [(0, .iload_n 1, 1, 0, 0), (1, .iconst 1, 2, 0, 1), (2, .invokestatic 113, 5, 0, 0), (5, .ifCond .ne 6, 8, 11, 0), (8, .ldc 226, 10, 999, (-100000)), (10, .ireturn, 11, 0, 0), (11, .iconst (-1), 12, 0, (-1)), (12, .istore_n 2, 13, 0, 0),
  (13, .aload_n 0, 14, 0, 0), (14, .aload_n 0, 15, 0, 0), (15, .getfield 10, 18, 0, 0), (18, .getfield 145, 21, 0, 0), (21, .invokevirtual 206, 24, 0, 0), (24, .istore_n 3, 25, 0, 0), (25, .iconst 0, 26, 0, 0), (26, .istore 4, 28, 0, 0),
  (28, .iload 4, 30, 0, 0), (30, .aload_n 0, 31, 0, 0), (31, .getfield 10, 34, 0, 0), (34, .getfield 145, 37, 0, 0), (37, .getfield 148, 40, 0, 0), (40, .if_icmp .ge 47, 43, 87, 0), (43, .aload_n 0, 44, 0, 0), (44, .getfield 62, 47, 0, 0),
  (47, .aload_n 0, 48, 0, 0), (48, .getfield 10, 51, 0, 0), (51, .getfield 145, 54, 0, 0), (54, .iload 4, 56, 0, 0), (56, .invokevirtual 227, 59, 0, 0), (59, .aload_n 0, 60, 0, 0), (60, .aload_n 0, 61, 0, 0), (61, .getfield 62, 64, 0, 0),
  (64, .invokevirtual 206, 67, 0, 0), (67, .istore 5, 69, 0, 0), (69, .iload 5, 71, 0, 0), (71, .iload_n 3, 72, 0, 0), (72, .if_icmp .le 9, 75, 81, 0), (75, .iload 5, 77, 0, 0), (77, .istore_n 3, 78, 0, 0), (78, .iload 4, 80, 0, 0),
  (80, .istore_n 2, 81, 0, 0), (81, .iinc 4 1, 84, 0, 1), (84, .goto (-56), 87, 28, 0), (87, .iload_n 1, 88, 0, 0), (88, .ifCond .ne 7, 91, 95, 0), (91, .iload_n 2, 92, 0, 0), (92, .goto 4, 95, 96, 0), (95, .iload_n 3, 96, 0, 0),
  (96, .ireturn, 97, 0, 0)]
abbrev M_X10_leave : MI := (yX10_leave, cX10_leave, 6, (some .int), 10, P_X10_leave)
theorem ok_X10_leave : okP 10 cX10_leave P_X10_leave = true := by decide +kernel
def P_X10_order : List PE := [(0, .iload_n 1, 1, 0, 0), (1, .iconst 1, 2, 0, 1), (2, .invokestatic 113, 5, 0, 0), (5, .ifCond .ne 6, 8, 11, 0), (8, .ldc 226, 10, 999, (-100000)), (10, .ireturn, 11, 0, 0), (11, .aload_n 0, 12, 0, 0), (12, .getfield 76, 15, 0, 0),
  (15, .aload_n 0, 16, 0, 0), (16, .getfield 10, 19, 0, 0), (19, .aload_n 0, 20, 0, 0), (20, .invokevirtual 231, 23, 0, 0), (23, .invokevirtual 234, 26, 0, 0), (26, .iload_n 1, 27, 0, 0), (27, .ifCond .ne 13, 30, 40, 0), (30, .aload_n 0, 31, 0, 0),
  (31, .getfield 76, 34, 0, 0), (34, .getfield 238, 37, 0, 0), (37, .goto 10, 40, 47, 0), (40, .aload_n 0, 41, 0, 0), (41, .getfield 76, 44, 0, 0), (44, .getfield 241, 47, 0, 0), (47, .ireturn, 48, 0, 0)]
abbrev M_X10_order : MI := (yX10_order, cX10_order, 2, (some .int), 10, P_X10_order)
theorem ok_X10_order : okP 10 cX10_order P_X10_order = true := by decide +kernel
def P_X10_letter : List PE := [(0, .iload_n 2, 1, 0, 0), (1, .iconst 1, 2, 0, 1), (2, .invokestatic 113, 5, 0, 0), (5, .ifCond .eq 14, 8, 19, 0), (8, .aload_n 0, 9, 0, 0), (9, .getfield 10, 12, 0, 0), (12, .iload_n 1, 13, 0, 0), (13, .invokevirtual 142, 16, 0, 0),
  (16, .ifCond .ne 6, 19, 22, 0), (19, .ldc 226, 21, 999, (-100000)), (21, .ireturn, 22, 0, 0), (22, .aload_n 0, 23, 0, 0), (23, .getfield 10, 26, 0, 0), (26, .getfield 244, 29, 0, 0), (29, .iload_n 1, 30, 0, 0), (30, .iaload, 31, 0, 0),
  (31, .istore_n 3, 32, 0, 0), (32, .iconst (-1), 33, 0, (-1)), (33, .istore 4, 35, 0, 0), (35, .iconst 0, 36, 0, 0), (36, .istore 5, 38, 0, 0), (38, .iconst 0, 39, 0, 0), (39, .istore 6, 41, 0, 0), (41, .iload 6, 43, 0, 0),
  (43, .bipush 26, 45, 0, 26), (45, .if_icmp .ge 54, 48, 99, 0), (48, .aload_n 0, 49, 0, 0), (49, .getfield 10, 52, 0, 0), (52, .getfield 244, 55, 0, 0), (55, .iload_n 1, 56, 0, 0), (56, .iload 6, 58, 0, 0), (58, .iastore, 59, 0, 0),
  (59, .aload_n 0, 60, 0, 0), (60, .aload_n 0, 61, 0, 0), (61, .getfield 10, 64, 0, 0), (64, .getfield 145, 67, 0, 0), (67, .invokevirtual 206, 70, 0, 0), (70, .istore 7, 72, 0, 0), (72, .iload 4, 74, 0, 0), (74, .iconst (-1), 75, 0, (-1)),
  (75, .if_icmp .eq 10, 78, 85, 0), (78, .iload 7, 80, 0, 0), (80, .iload 5, 82, 0, 0), (82, .if_icmp .le 11, 85, 93, 0), (85, .iload 7, 87, 0, 0), (87, .istore 5, 89, 0, 0), (89, .iload 6, 91, 0, 0), (91, .istore 4, 93, 0, 0),
  (93, .iinc 6 1, 96, 0, 1), (96, .goto (-55), 99, 41, 0), (99, .aload_n 0, 100, 0, 0), (100, .getfield 10, 103, 0, 0), (103, .getfield 244, 106, 0, 0), (106, .iload_n 1, 107, 0, 0), (107, .iload_n 3, 108, 0, 0), (108, .iastore, 109, 0, 0),
  (109, .iload_n 2, 110, 0, 0), (110, .ifCond .ne 8, 113, 118, 0), (113, .iload 4, 115, 0, 0), (115, .goto 5, 118, 120, 0), (118, .iload 5, 120, 0, 0), (120, .ireturn, 121, 0, 0)]
abbrev M_X10_letter : MI := (yX10_letter, cX10_letter, 8, (some .int), 10, P_X10_letter)
theorem ok_X10_letter : okP 10 cX10_letter P_X10_letter = true := by decide +kernel
def P_X10_heard : List PE := [(0, .iload_n 1, 1, 0, 0), (1, .invokestatic 109, 4, 0, 0), (4, .ifCond .eq 11, 7, 15, 0), (7, .iload_n 2, 8, 0, 0), (8, .iconst 2, 9, 0, 2), (9, .invokestatic 113, 12, 0, 0), (12, .ifCond .ne 6, 15, 18, 0), (15, .bipush (-2), 17, 0, (-2)),
  (17, .ireturn, 18, 0, 0), (18, .aload_n 0, 19, 0, 0), (19, .getfield 41, 22, 0, 0), (22, .iload_n 1, 23, 0, 0), (23, .aaload, 24, 0, 0), (24, .astore_n 3, 25, 0, 0), (25, .aload_n 3, 26, 0, 0), (26, .invokevirtual 117, 29, 0, 0),
  (29, .ifCond .eq 6, 32, 35, 0), (32, .bipush (-11), 34, 0, (-11)), (34, .ireturn, 35, 0, 0), (35, .iload_n 2, 36, 0, 0), (36, .lookupswitch 40 #[(0, 28), (1, 34)], 64, 0, 0), (64, .aload_n 0, 65, 0, 0), (65, .aload_n 3, 66, 0, 0), (66, .invokevirtual 247, 69, 0, 0),
  (69, .ireturn, 70, 0, 0), (70, .aload_n 0, 71, 0, 0), (71, .aload_n 3, 72, 0, 0), (72, .invokevirtual 251, 75, 0, 0), (75, .ireturn, 76, 0, 0), (76, .aload_n 0, 77, 0, 0), (77, .aload_n 3, 78, 0, 0), (78, .invokevirtual 254, 81, 0, 0),
  (81, .ireturn, 82, 0, 0)]
abbrev M_X10_heard : MI := (yX10_heard, cX10_heard, 4, (some .int), 10, P_X10_heard)
theorem ok_X10_heard : okP 10 cX10_heard P_X10_heard = true := by decide +kernel
def P_X10_found : List PE := [(0, .iload_n 1, 1, 0, 0), (1, .invokestatic 109, 4, 0, 0), (4, .ifCond .eq 34, 7, 38, 0), (7, .aload_n 0, 8, 0, 0), (8, .getfield 10, 11, 0, 0), (11, .iload_n 2, 12, 0, 0), (12, .invokevirtual 166, 15, 0, 0), (15, .ifCond .eq 23, 18, 38, 0),
  (18, .aload_n 0, 19, 0, 0), (19, .getfield 10, 22, 0, 0), (22, .iload_n 3, 23, 0, 0), (23, .invokevirtual 142, 26, 0, 0), (26, .ifCond .eq 12, 29, 38, 0), (29, .iload 4, 31, 0, 0), (31, .iconst 2, 32, 0, 2), (32, .invokestatic 113, 35, 0, 0),
  (35, .ifCond .ne 6, 38, 41, 0), (38, .bipush (-2), 40, 0, (-2)), (40, .ireturn, 41, 0, 0), (41, .aload_n 0, 42, 0, 0), (42, .getfield 41, 45, 0, 0), (45, .iload_n 1, 46, 0, 0), (46, .aaload, 47, 0, 0), (47, .astore 5, 49, 0, 0),
  (49, .aload 5, 51, 0, 0), (51, .invokevirtual 117, 54, 0, 0), (54, .ifCond .eq 6, 57, 60, 0), (57, .bipush (-11), 59, 0, (-11)), (59, .ireturn, 60, 0, 0), (60, .iload 4, 62, 0, 0), (62, .lookupswitch 62 #[(0, 26), (1, 44)], 88, 0, 0), (88, .aload_n 0, 89, 0, 0),
  (89, .aload 5, 91, 0, 0), (91, .iload_n 2, 92, 0, 0), (92, .aload_n 0, 93, 0, 0), (93, .getfield 10, 96, 0, 0), (96, .getfield 244, 99, 0, 0), (99, .iload_n 3, 100, 0, 0), (100, .bipush 26, 102, 0, 26), (102, .invokevirtual 257, 105, 0, 0),
  (105, .ireturn, 106, 0, 0), (106, .aload_n 0, 107, 0, 0), (107, .aload 5, 109, 0, 0), (109, .iload_n 2, 110, 0, 0), (110, .aload_n 0, 111, 0, 0), (111, .getfield 10, 114, 0, 0), (114, .getfield 261, 117, 0, 0), (117, .iload_n 3, 118, 0, 0),
  (118, .bipush 26, 120, 0, 26), (120, .invokevirtual 257, 123, 0, 0), (123, .ireturn, 124, 0, 0), (124, .aload_n 0, 125, 0, 0), (125, .aload 5, 127, 0, 0), (127, .iload_n 2, 128, 0, 0), (128, .aload_n 0, 129, 0, 0), (129, .getfield 10, 132, 0, 0),
  (132, .getfield 172, 135, 0, 0), (135, .iload_n 3, 136, 0, 0), (136, .bipush 6, 138, 0, 6), (138, .invokevirtual 257, 141, 0, 0), (141, .ireturn, 142, 0, 0)]
abbrev M_X10_found : MI := (yX10_found, cX10_found, 6, (some .int), 10, P_X10_found)
theorem ok_X10_found : okP 10 cX10_found P_X10_found = true := by decide +kernel
def P_X10_alikeTexts : List PE := [(0, .aload_n 0, 1, 0, 0), (1, .getfield 48, 4, 0, 0), (4, .aload_n 0, 5, 0, 0), (5, .getfield 10, 8, 0, 0), (8, .aload_n 0, 9, 0, 0), (9, .getfield 10, 12, 0, 0), (12, .getfield 145, 15, 0, 0), (15, .invokevirtual 210, 18, 0, 0),
  (18, .aload_n 0, 19, 0, 0), (19, .getfield 69, 22, 0, 0), (22, .aload_n 0, 23, 0, 0), (23, .getfield 10, 26, 0, 0), (26, .aload_n 0, 27, 0, 0), (27, .getfield 10, 30, 0, 0), (30, .getfield 145, 33, 0, 0), (33, .aload_n 0, 34, 0, 0),
  (34, .invokevirtual 231, 37, 0, 0), (37, .aload_n 0, 38, 0, 0), (38, .getfield 48, 41, 0, 0), (41, .invokevirtual 264, 44, 0, 0), (44, .istore_n 1, 45, 0, 0), (45, .iconst 0, 46, 0, 0), (46, .istore_n 2, 47, 0, 0), (47, .iconst 0, 48, 0, 0),
  (48, .istore_n 3, 49, 0, 0), (49, .iload_n 3, 50, 0, 0), (50, .aload_n 0, 51, 0, 0), (51, .getfield 106, 54, 0, 0), (54, .if_icmp .ge 47, 57, 101, 0), (57, .aload_n 0, 58, 0, 0), (58, .getfield 69, 61, 0, 0), (61, .aload_n 0, 62, 0, 0),
  (62, .getfield 10, 65, 0, 0), (65, .aload_n 0, 66, 0, 0), (66, .getfield 10, 69, 0, 0), (69, .getfield 145, 72, 0, 0), (72, .aload_n 0, 73, 0, 0), (73, .getfield 21, 76, 0, 0), (76, .iload_n 3, 77, 0, 0), (77, .aaload, 78, 0, 0),
  (78, .aload_n 0, 79, 0, 0), (79, .getfield 48, 82, 0, 0), (82, .invokevirtual 264, 85, 0, 0), (85, .iload_n 1, 86, 0, 0), (86, .if_icmp .ne 9, 89, 95, 0), (89, .iload_n 2, 90, 0, 0), (90, .iconst 1, 91, 0, 1), (91, .iload_n 3, 92, 0, 0),
  (92, .ishl, 93, 0, 0), (93, .ior, 94, 0, 0), (94, .istore_n 2, 95, 0, 0), (95, .iinc 3 1, 98, 0, 1), (98, .goto (-49), 101, 49, 0), (101, .iload_n 2, 102, 0, 0), (102, .ireturn, 103, 0, 0)]
abbrev M_X10_alikeTexts : MI := (yX10_alikeTexts, cX10_alikeTexts, 4, (some .int), 10, P_X10_alikeTexts)
theorem ok_X10_alikeTexts : okP 10 cX10_alikeTexts P_X10_alikeTexts = true := by decide +kernel
def P_X10_film : List PE := [(0, .iload_n 1, 1, 0, 0), (1, .invokestatic 109, 4, 0, 0), (4, .ifCond .eq 14, 7, 18, 0), (7, .aload_n 0, 8, 0, 0), (8, .getfield 10, 11, 0, 0), (11, .iload_n 2, 12, 0, 0), (12, .invokevirtual 166, 15, 0, 0), (15, .ifCond .ne 6, 18, 21, 0),
  (18, .bipush (-2), 20, 0, (-2)), (20, .ireturn, 21, 0, 0), (21, .aload_n 0, 22, 0, 0), (22, .getfield 55, 25, 0, 0), (25, .aload_n 0, 26, 0, 0), (26, .getfield 10, 29, 0, 0), (29, .aload_n 0, 30, 0, 0), (30, .getfield 10, 33, 0, 0),
  (33, .getfield 145, 36, 0, 0), (36, .iload_n 2, 37, 0, 0), (37, .invokevirtual 185, 40, 0, 0), (40, .aload_n 0, 41, 0, 0), (41, .getfield 55, 44, 0, 0), (44, .invokevirtual 268, 47, 0, 0), (47, .ifCond .eq 6, 50, 53, 0), (50, .bipush (-3), 52, 0, (-3)),
  (52, .ireturn, 53, 0, 0), (53, .aload_n 0, 54, 0, 0), (54, .getfield 41, 57, 0, 0), (57, .iload_n 1, 58, 0, 0), (58, .aaload, 59, 0, 0), (59, .aload_n 0, 60, 0, 0), (60, .getfield 55, 63, 0, 0), (63, .invokevirtual 271, 66, 0, 0),
  (66, .aload_n 0, 67, 0, 0), (67, .getfield 55, 70, 0, 0), (70, .getfield 275, 73, 0, 0), (73, .ireturn, 74, 0, 0)]
abbrev M_X10_film : MI := (yX10_film, cX10_film, 3, (some .int), 10, P_X10_film)
theorem ok_X10_film : okP 10 cX10_film P_X10_film = true := by decide +kernel
def P_X10_drawn : List PE := [(0, .aload_n 0, 1, 0, 0), (1, .getfield 62, 4, 0, 0), (4, .iload_n 1, 5, 0, 0), (5, .aload_n 0, 6, 0, 0), (6, .getfield 10, 9, 0, 0), (9, .getfield 135, 12, 0, 0), (12, .invokevirtual 276, 15, 0, 0), (15, .aload_n 0, 16, 0, 0),
  (16, .aload_n 0, 17, 0, 0), (17, .getfield 62, 20, 0, 0), (20, .invokevirtual 206, 23, 0, 0), (23, .ireturn, 24, 0, 0)]
abbrev M_X10_drawn : MI := (yX10_drawn, cX10_drawn, 2, (some .int), 10, P_X10_drawn)
theorem ok_X10_drawn : okP 10 cX10_drawn P_X10_drawn = true := by decide +kernel
def P_X10_chance : List PE := [(0, .iload_n 2, 1, 0, 0), (1, .iconst 1, 2, 0, 1), (2, .if_icmp .lt 17, 5, 19, 0), (5, .iload_n 2, 6, 0, 0), (6, .bipush 20, 8, 0, 20), (8, .if_icmp .gt 11, 11, 19, 0), (11, .iload_n 3, 12, 0, 0), (12, .iconst 1, 13, 0, 1),
  (13, .invokestatic 113, 16, 0, 0), (16, .ifCond .ne 7, 19, 23, 0), (19, .ldc2_w 280, 22, 0, 0), (22, .lreturn, 23, 0, 0), (23, .iconst 0, 24, 0, 0), (24, .istore 4, 26, 0, 0), (26, .iconst 0, 27, 0, 0), (27, .istore 5, 29, 0, 0),
  (29, .iload 5, 31, 0, 0), (31, .iload_n 2, 32, 0, 0), (32, .if_icmp .ge 55, 35, 87, 0), (35, .aload_n 0, 36, 0, 0), (36, .getfield 62, 39, 0, 0), (39, .iload_n 1, 40, 0, 0), (40, .iload 5, 42, 0, 0), (42, .iadd, 43, 0, 0),
  (43, .aload_n 0, 44, 0, 0), (44, .getfield 10, 47, 0, 0), (47, .getfield 135, 50, 0, 0), (50, .invokevirtual 276, 53, 0, 0), (53, .aload_n 0, 54, 0, 0), (54, .getfield 48, 57, 0, 0), (57, .aload_n 0, 58, 0, 0), (58, .getfield 10, 61, 0, 0),
  (61, .aload_n 0, 62, 0, 0), (62, .getfield 62, 65, 0, 0), (65, .invokevirtual 210, 68, 0, 0), (68, .aload_n 0, 69, 0, 0), (69, .getfield 48, 72, 0, 0), (72, .invokevirtual 214, 75, 0, 0), (75, .ifCond .ne 6, 78, 81, 0), (78, .iinc 4 1, 81, 0, 1),
  (81, .iinc 5 1, 84, 0, 1), (84, .goto (-55), 87, 29, 0), (87, .iload 4, 89, 0, 0), (89, .iload_n 2, 90, 0, 0), (90, .invokestatic 282, 93, 0, 0), (93, .istore 5, 95, 0, 0), (95, .iload_n 3, 96, 0, 0), (96, .ifCond .ne 12, 99, 108, 0),
  (99, .iload 4, 101, 0, 0), (101, .iload 5, 103, 0, 0), (103, .idiv, 104, 0, 0), (104, .i2l, 105, 0, 0), (105, .goto 8, 108, 113, 0), (108, .iload_n 2, 109, 0, 0), (109, .iload 5, 111, 0, 0), (111, .idiv, 112, 0, 0),
  (112, .i2l, 113, 0, 0), (113, .lreturn, 114, 0, 0)]
abbrev M_X10_chance : MI := (yX10_chance, cX10_chance, 6, (some .long), 10, P_X10_chance)
theorem ok_X10_chance : okP 10 cX10_chance P_X10_chance = true := by decide +kernel
def P_X10_image : List PE := [(0, .aload_n 0, 1, 0, 0), (1, .getfield 16, 4, 0, 0), (4, .aload_n 0, 5, 0, 0), (5, .getfield 10, 8, 0, 0), (8, .invokevirtual 285, 11, 0, 0), (11, .aload_n 0, 12, 0, 0), (12, .iconst 1, 13, 0, 1), (13, .putfield 289, 16, 0, 0),
  (16, .aload_n 0, 17, 0, 0), (17, .getfield 16, 20, 0, 0), (20, .getfield 124, 23, 0, 0), (23, .ireturn, 24, 0, 0)]
abbrev M_X10_image : MI := (yX10_image, cX10_image, 1, (some .int), 10, P_X10_image)
theorem ok_X10_image : okP 10 cX10_image P_X10_image = true := by decide +kernel
def P_X10_back : List PE := [(0, .aload_n 0, 1, 0, 0), (1, .getfield 289, 4, 0, 0), (4, .ifCond .ne 6, 7, 10, 0), (7, .bipush (-3), 9, 0, (-3)), (9, .ireturn, 10, 0, 0), (10, .aload_n 0, 11, 0, 0), (11, .getfield 10, 14, 0, 0), (14, .aload_n 0, 15, 0, 0),
  (15, .getfield 16, 18, 0, 0), (18, .invokevirtual 285, 21, 0, 0), (21, .aload_n 0, 22, 0, 0), (22, .getfield 10, 25, 0, 0), (25, .getfield 124, 28, 0, 0), (28, .ireturn, 29, 0, 0)]
abbrev M_X10_back : MI := (yX10_back, cX10_back, 1, (some .int), 10, P_X10_back)
theorem ok_X10_back : okP 10 cX10_back P_X10_back = true := by decide +kernel
def P_X10_count : List PE := [(0, .iload_n 1, 1, 0, 0), (1, .tableswitch 87 0 5 #[39, 47, 55, 66, 71, 79], 40, 0, 0), (40, .aload_n 0, 41, 0, 0), (41, .getfield 10, 44, 0, 0), (44, .getfield 124, 47, 0, 0), (47, .ireturn, 48, 0, 0), (48, .aload_n 0, 49, 0, 0), (49, .getfield 10, 52, 0, 0),
  (52, .getfield 135, 55, 0, 0), (55, .ireturn, 56, 0, 0), (56, .aload_n 0, 57, 0, 0), (57, .getfield 10, 60, 0, 0), (60, .getfield 145, 63, 0, 0), (63, .getfield 148, 66, 0, 0), (66, .ireturn, 67, 0, 0), (67, .aload_n 0, 68, 0, 0),
  (68, .getfield 106, 71, 0, 0), (71, .ireturn, 72, 0, 0), (72, .aload_n 0, 73, 0, 0), (73, .getfield 28, 76, 0, 0), (76, .getfield 102, 79, 0, 0), (79, .ireturn, 80, 0, 0), (80, .aload_n 0, 81, 0, 0), (81, .getfield 10, 84, 0, 0),
  (84, .getfield 179, 87, 0, 0), (87, .ireturn, 88, 0, 0), (88, .bipush (-2), 90, 0, (-2)), (90, .ireturn, 91, 0, 0)]
abbrev M_X10_count : MI := (yX10_count, cX10_count, 2, (some .int), 10, P_X10_count)
theorem ok_X10_count : okP 10 cX10_count P_X10_count = true := by decide +kernel
def P_X10_sheet : List PE := [(0, .iload_n 1, 1, 0, 0), (1, .invokestatic 109, 4, 0, 0), (4, .ifCond .eq 13, 7, 17, 0), (7, .iload_n 2, 8, 0, 0), (8, .iconst (-1), 9, 0, (-1)), (9, .if_icmp .lt 8, 12, 17, 0), (12, .iload_n 2, 13, 0, 0), (13, .iconst 2, 14, 0, 2),
  (14, .if_icmp .le 6, 17, 20, 0), (17, .bipush (-2), 19, 0, (-2)), (19, .ireturn, 20, 0, 0), (20, .iload_n 2, 21, 0, 0), (21, .iconst (-1), 22, 0, (-1)), (22, .if_icmp .ne 16, 25, 38, 0), (25, .aload_n 0, 26, 0, 0), (26, .getfield 41, 29, 0, 0),
  (29, .iload_n 1, 30, 0, 0), (30, .aaload, 31, 0, 0), (31, .iconst (-1), 32, 0, (-1)), (32, .iconst 0, 33, 0, 0), (33, .invokevirtual 293, 36, 0, 0), (36, .iconst 1, 37, 0, 1), (37, .ireturn, 38, 0, 0), (38, .iload_n 3, 39, 0, 0),
  (39, .bipush 40, 41, 0, 40), (41, .if_icmp .le 6, 44, 47, 0), (44, .bipush (-2), 46, 0, (-2)), (46, .ireturn, 47, 0, 0), (47, .iload_n 3, 48, 0, 0), (48, .ifCond .ge 6, 51, 54, 0), (51, .bipush (-14), 53, 0, (-14)), (53, .ireturn, 54, 0, 0),
  (54, .aload_n 0, 55, 0, 0), (55, .getfield 41, 58, 0, 0), (58, .iload_n 1, 59, 0, 0), (59, .aaload, 60, 0, 0), (60, .iload_n 2, 61, 0, 0), (61, .iload_n 3, 62, 0, 0), (62, .invokevirtual 293, 65, 0, 0), (65, .iconst 1, 66, 0, 1),
  (66, .ireturn, 67, 0, 0)]
abbrev M_X10_sheet : MI := (yX10_sheet, cX10_sheet, 4, (some .int), 10, P_X10_sheet)
theorem ok_X10_sheet : okP 10 cX10_sheet P_X10_sheet = true := by decide +kernel
def P_X10_cell : List PE := [(0, .iload_n 1, 1, 0, 0), (1, .invokestatic 109, 4, 0, 0), (4, .ifCond .ne 6, 7, 10, 0), (7, .bipush (-2), 9, 0, (-2)), (9, .ireturn, 10, 0, 0), (10, .aload_n 0, 11, 0, 0), (11, .getfield 41, 14, 0, 0), (14, .iload_n 1, 15, 0, 0),
  (15, .aaload, 16, 0, 0), (16, .astore 4, 18, 0, 0), (18, .aload 4, 20, 0, 0), (20, .invokevirtual 117, 23, 0, 0), (23, .ifCond .eq 6, 26, 29, 0), (26, .bipush (-11), 28, 0, (-11)), (28, .ireturn, 29, 0, 0), (29, .iload_n 2, 30, 0, 0),
  (30, .ifCond .lt 12, 33, 42, 0), (33, .iload_n 2, 34, 0, 0), (34, .aload 4, 36, 0, 0), (36, .getfield 295, 39, 0, 0), (39, .if_icmp .lt 6, 42, 45, 0), (42, .bipush (-12), 44, 0, (-12)), (44, .ireturn, 45, 0, 0), (45, .aload 4, 47, 0, 0),
  (47, .iload_n 2, 48, 0, 0), (48, .iload_n 3, 49, 0, 0), (49, .invokevirtual 296, 52, 0, 0), (52, .iconst 1, 53, 0, 1), (53, .ireturn, 54, 0, 0)]
abbrev M_X10_cell : MI := (yX10_cell, cX10_cell, 5, (some .int), 10, P_X10_cell)
theorem ok_X10_cell : okP 10 cX10_cell P_X10_cell = true := by decide +kernel
def P_X10_copy : List PE := [(0, .iload_n 1, 1, 0, 0), (1, .invokestatic 109, 4, 0, 0), (4, .ifCond .eq 10, 7, 14, 0), (7, .iload_n 3, 8, 0, 0), (8, .invokestatic 109, 11, 0, 0), (11, .ifCond .ne 6, 14, 17, 0), (14, .bipush (-2), 16, 0, (-2)), (16, .ireturn, 17, 0, 0),
  (17, .aload_n 0, 18, 0, 0), (18, .getfield 41, 21, 0, 0), (21, .iload_n 1, 22, 0, 0), (22, .aaload, 23, 0, 0), (23, .astore 6, 25, 0, 0), (25, .aload_n 0, 26, 0, 0), (26, .getfield 41, 29, 0, 0), (29, .iload_n 3, 30, 0, 0),
  (30, .aaload, 31, 0, 0), (31, .astore 7, 33, 0, 0), (33, .aload 6, 35, 0, 0), (35, .invokevirtual 117, 38, 0, 0), (38, .ifCond .ne 11, 41, 49, 0), (41, .aload 7, 43, 0, 0), (43, .invokevirtual 117, 46, 0, 0), (46, .ifCond .eq 6, 49, 52, 0),
  (49, .bipush (-11), 51, 0, (-11)), (51, .ireturn, 52, 0, 0), (52, .aload 6, 54, 0, 0), (54, .getfield 298, 57, 0, 0), (57, .aload 7, 59, 0, 0), (59, .getfield 298, 62, 0, 0), (62, .if_icmp .eq 6, 65, 68, 0), (65, .bipush (-13), 67, 0, (-13)),
  (67, .ireturn, 68, 0, 0), (68, .aload 6, 70, 0, 0), (70, .iload_n 2, 71, 0, 0), (71, .iload 5, 73, 0, 0), (73, .invokevirtual 301, 76, 0, 0), (76, .ifCond .eq 15, 79, 91, 0), (79, .aload 7, 81, 0, 0), (81, .iload 4, 83, 0, 0),
  (83, .iload 5, 85, 0, 0), (85, .invokevirtual 301, 88, 0, 0), (88, .ifCond .ne 6, 91, 94, 0), (91, .bipush (-12), 93, 0, (-12)), (93, .ireturn, 94, 0, 0), (94, .aload 6, 96, 0, 0), (96, .getfield 304, 99, 0, 0), (99, .iload_n 2, 100, 0, 0),
  (100, .aload 7, 102, 0, 0), (102, .getfield 304, 105, 0, 0), (105, .iload 4, 107, 0, 0), (107, .iload 5, 109, 0, 0), (109, .invokestatic 307, 112, 0, 0), (112, .iload 5, 114, 0, 0), (114, .ireturn, 115, 0, 0)]
abbrev M_X10_copy : MI := (yX10_copy, cX10_copy, 8, (some .int), 10, P_X10_copy)
theorem ok_X10_copy : okP 10 cX10_copy P_X10_copy = true := by decide +kernel
def P_X10_rules : List PE := [(0, .iload_n 1, 1, 0, 0), (1, .invokestatic 109, 4, 0, 0), (4, .ifCond .eq 22, 7, 26, 0), (7, .iload_n 2, 8, 0, 0), (8, .ifCond .lt 18, 11, 26, 0), (11, .iload_n 2, 12, 0, 0), (12, .iconst 2, 13, 0, 2), (13, .if_icmp .gt 13, 16, 26, 0),
  (16, .iload 4, 18, 0, 0), (18, .bipush 6, 20, 0, 6), (20, .invokestatic 113, 23, 0, 0), (23, .ifCond .ne 6, 26, 29, 0), (26, .bipush (-2), 28, 0, (-2)), (28, .ireturn, 29, 0, 0), (29, .aload_n 0, 30, 0, 0), (30, .getfield 41, 33, 0, 0),
  (33, .iload_n 1, 34, 0, 0), (34, .aaload, 35, 0, 0), (35, .astore 5, 37, 0, 0), (37, .aload 5, 39, 0, 0), (39, .invokevirtual 117, 42, 0, 0), (42, .ifCond .eq 6, 45, 48, 0), (45, .bipush (-11), 47, 0, (-11)), (47, .ireturn, 48, 0, 0),
  (48, .aload 5, 50, 0, 0), (50, .getfield 298, 53, 0, 0), (53, .iload_n 2, 54, 0, 0), (54, .if_icmp .eq 6, 57, 60, 0), (57, .bipush (-13), 59, 0, (-13)), (59, .ireturn, 60, 0, 0), (60, .iconst 0, 61, 0, 0), (61, .istore 6, 63, 0, 0),
  (63, .iconst 0, 64, 0, 0), (64, .istore 7, 66, 0, 0), (66, .iload 7, 68, 0, 0), (68, .iload 4, 70, 0, 0), (70, .if_icmp .ge 69, 73, 139, 0), (73, .iload_n 3, 74, 0, 0), (74, .iconst 3, 75, 0, 3), (75, .iload 7, 77, 0, 0),
  (77, .imul, 78, 0, 0), (78, .iadd, 79, 0, 0), (79, .istore 8, 81, 0, 0), (81, .aload 5, 83, 0, 0), (83, .iload 8, 85, 0, 0), (85, .iconst 3, 86, 0, 3), (86, .invokevirtual 301, 89, 0, 0), (89, .ifCond .ne 6, 92, 95, 0),
  (92, .bipush (-12), 94, 0, (-12)), (94, .ireturn, 95, 0, 0), (95, .aload_n 0, 96, 0, 0), (96, .aload 5, 98, 0, 0), (98, .getfield 304, 101, 0, 0), (101, .iload 8, 103, 0, 0), (103, .iaload, 104, 0, 0), (104, .aload 5, 106, 0, 0),
  (106, .getfield 304, 109, 0, 0), (109, .iload 8, 111, 0, 0), (111, .iconst 1, 112, 0, 1), (112, .iadd, 113, 0, 0), (113, .iaload, 114, 0, 0), (114, .aload 5, 116, 0, 0), (116, .getfield 304, 119, 0, 0), (119, .iload 8, 121, 0, 0),
  (121, .iconst 2, 122, 0, 2), (122, .iadd, 123, 0, 0), (123, .iaload, 124, 0, 0), (124, .invokevirtual 313, 127, 0, 0), (127, .ifCond .lt 6, 130, 133, 0), (130, .iinc 6 1, 133, 0, 1), (133, .iinc 7 1, 136, 0, 1), (136, .goto (-70), 139, 66, 0),
  (139, .iload 6, 141, 0, 0), (141, .ireturn, 142, 0, 0)]
abbrev M_X10_rules : MI := (yX10_rules, cX10_rules, 9, (some .int), 10, P_X10_rules)
theorem ok_X10_rules : okP 10 cX10_rules P_X10_rules = true := by decide +kernel
def P_X10_taken : List PE := [(0, .iload_n 2, 1, 0, 0), (1, .iconst 5, 2, 0, 5), (2, .invokestatic 113, 5, 0, 0), (5, .ifCond .ne 6, 8, 11, 0), (8, .bipush (-2), 10, 0, (-2)), (10, .ireturn, 11, 0, 0), (11, .aload_n 0, 12, 0, 0), (12, .getfield 10, 15, 0, 0),
  (15, .iload_n 1, 16, 0, 0), (16, .invokevirtual 142, 19, 0, 0), (19, .ifCond .ne 6, 22, 25, 0), (22, .bipush (-11), 24, 0, (-11)), (24, .ireturn, 25, 0, 0), (25, .aload_n 0, 26, 0, 0), (26, .getfield 10, 29, 0, 0), (29, .getfield 172, 32, 0, 0),
  (32, .iload_n 1, 33, 0, 0), (33, .iaload, 34, 0, 0), (34, .iload_n 2, 35, 0, 0), (35, .invokestatic 316, 38, 0, 0), (38, .ifCond .eq 15, 41, 53, 0), (41, .aload_n 0, 42, 0, 0), (42, .getfield 10, 45, 0, 0), (45, .getfield 261, 48, 0, 0),
  (48, .iload_n 1, 49, 0, 0), (49, .iaload, 50, 0, 0), (50, .goto 5, 53, 55, 0), (53, .bipush (-13), 55, 0, (-13)), (55, .ireturn, 56, 0, 0)]
abbrev M_X10_taken : MI := (yX10_taken, cX10_taken, 3, (some .int), 10, P_X10_taken)
theorem ok_X10_taken : okP 10 cX10_taken P_X10_taken = true := by decide +kernel
def P_X10_isWithin : List PE := [(0, .iload_n 0, 1, 0, 0), (1, .ifCond .lt 12, 4, 13, 0), (4, .iload_n 0, 5, 0, 0), (5, .iload_n 1, 6, 0, 0), (6, .if_icmp .gt 7, 9, 13, 0), (9, .iconst 1, 10, 0, 1), (10, .goto 4, 13, 14, 0), (13, .iconst 0, 14, 0, 0),
  (14, .ireturn, 15, 0, 0)]
abbrev M_X10_isWithin : MI := (yX10_isWithin, cX10_isWithin, 2, (some .boolean), 10, P_X10_isWithin)
theorem ok_X10_isWithin : okP 10 cX10_isWithin P_X10_isWithin = true := by decide +kernel
def P_X10_isSheet : List PE := [(0, .iload_n 0, 1, 0, 0), (1, .iconst 3, 2, 0, 3), (2, .invokestatic 113, 5, 0, 0), (5, .ireturn, 6, 0, 0)]
abbrev M_X10_isSheet : MI := (yX10_isSheet, cX10_isSheet, 1, (some .boolean), 10, P_X10_isSheet)
theorem ok_X10_isSheet : okP 10 cX10_isSheet P_X10_isSheet = true := by decide +kernel
def P_X10_isLetter : List PE := [(0, .iload_n 0, 1, 0, 0), (1, .bipush 25, 3, 0, 25), (3, .invokestatic 113, 6, 0, 0), (6, .ireturn, 7, 0, 0)]
abbrev M_X10_isLetter : MI := (yX10_isLetter, cX10_isLetter, 1, (some .boolean), 10, P_X10_isLetter)
theorem ok_X10_isLetter : okP 10 cX10_isLetter P_X10_isLetter = true := by decide +kernel
def P_X10_isRule : List PE := [(0, .iload_n 0, 1, 0, 0), (1, .iconst 5, 2, 0, 5), (2, .invokestatic 113, 5, 0, 0), (5, .ifCond .eq 21, 8, 26, 0), (8, .iload_n 1, 9, 0, 0), (9, .invokestatic 319, 12, 0, 0), (12, .ifCond .eq 14, 15, 26, 0), (15, .iload_n 2, 16, 0, 0),
  (16, .invokestatic 319, 19, 0, 0), (19, .ifCond .eq 7, 22, 26, 0), (22, .iconst 1, 23, 0, 1), (23, .goto 4, 26, 27, 0), (26, .iconst 0, 27, 0, 0), (27, .ireturn, 28, 0, 0)]
abbrev M_X10_isRule : MI := (yX10_isRule, cX10_isRule, 3, (some .boolean), 10, P_X10_isRule)
theorem ok_X10_isRule : okP 10 cX10_isRule P_X10_isRule = true := by decide +kernel
def P_X10_isSaidPlace : List PE := [(0, .iload_n 0, 1, 0, 0), (1, .iconst (-1), 2, 0, (-1)), (2, .if_icmp .lt 13, 5, 15, 0), (5, .iload_n 0, 6, 0, 0), (6, .bipush 40, 8, 0, 40), (8, .if_icmp .ge 7, 11, 15, 0), (11, .iconst 1, 12, 0, 1), (12, .goto 4, 15, 16, 0),
  (15, .iconst 0, 16, 0, 0), (16, .ireturn, 17, 0, 0)]
abbrev M_X10_isSaidPlace : MI := (yX10_isSaidPlace, cX10_isSaidPlace, 1, (some .boolean), 10, P_X10_isSaidPlace)
theorem ok_X10_isSaidPlace : okP 10 cX10_isSaidPlace P_X10_isSaidPlace = true := by decide +kernel
def P_X10_isUnder : List PE := [(0, .iload_n 0, 1, 0, 0), (1, .istore_n 2, 2, 0, 0), (2, .iconst 0, 3, 0, 0), (3, .istore_n 3, 4, 0, 0), (4, .iload_n 3, 5, 0, 0), (5, .bipush 6, 7, 0, 6), (7, .if_icmp .ge 30, 10, 37, 0), (10, .iload_n 2, 11, 0, 0),
  (11, .iconst 5, 12, 0, 5), (12, .invokestatic 113, 15, 0, 0), (15, .ifCond .eq 22, 18, 37, 0), (18, .iload_n 2, 19, 0, 0), (19, .iload_n 1, 20, 0, 0), (20, .if_icmp .ne 5, 23, 25, 0), (23, .iconst 1, 24, 0, 1), (24, .ireturn, 25, 0, 0),
  (25, .getstatic 322, 28, 0, 0), (28, .iload_n 2, 29, 0, 0), (29, .iaload, 30, 0, 0), (30, .istore_n 2, 31, 0, 0), (31, .iinc 3 1, 34, 0, 1), (34, .goto (-30), 37, 4, 0), (37, .iconst 0, 38, 0, 0), (38, .ireturn, 39, 0, 0)]
abbrev M_X10_isUnder : MI := (yX10_isUnder, cX10_isUnder, 4, (some .boolean), 10, P_X10_isUnder)
theorem ok_X10_isUnder : okP 10 cX10_isUnder P_X10_isUnder = true := by decide +kernel
def P_X10_commonDivisor : List PE := [(0, .iconst 1, 1, 0, 1), (1, .istore_n 2, 2, 0, 0), (2, .iconst 2, 3, 0, 2), (3, .istore_n 3, 4, 0, 0), (4, .iload_n 3, 5, 0, 0), (5, .iload_n 1, 6, 0, 0), (6, .if_icmp .gt 23, 9, 29, 0), (9, .iload_n 0, 10, 0, 0),
  (10, .iload_n 3, 11, 0, 0), (11, .irem, 12, 0, 0), (12, .ifCond .ne 11, 15, 23, 0), (15, .iload_n 1, 16, 0, 0), (16, .iload_n 3, 17, 0, 0), (17, .irem, 18, 0, 0), (18, .ifCond .ne 5, 21, 23, 0), (21, .iload_n 3, 22, 0, 0),
  (22, .istore_n 2, 23, 0, 0), (23, .iinc 3 1, 26, 0, 1), (26, .goto (-22), 29, 4, 0), (29, .iload_n 2, 30, 0, 0), (30, .ireturn, 31, 0, 0)]
abbrev M_X10_commonDivisor : MI := (yX10_commonDivisor, cX10_commonDivisor, 4, (some .int), 10, P_X10_commonDivisor)
theorem ok_X10_commonDivisor : okP 10 cX10_commonDivisor P_X10_commonDivisor = true := by decide +kernel
def P_X10_law : List PE := [(0, .aload_n 0, 1, 0, 0), (1, .getfield 21, 4, 0, 0), (4, .aload_n 0, 5, 0, 0), (5, .getfield 10, 8, 0, 0), (8, .getfield 179, 11, 0, 0), (11, .aaload, 12, 0, 0), (12, .areturn, 13, 0, 0)]
abbrev M_X10_law : MI := (yX10_law, cX10_law, 1, (some (.object "AfterEachVowel$Text")), 10, P_X10_law)
theorem ok_X10_law : okP 10 cX10_law P_X10_law = true := by decide +kernel
def P_X10_worthBy : List PE := [(0, .aload_n 0, 1, 0, 0), (1, .getfield 48, 4, 0, 0), (4, .aload_n 0, 5, 0, 0), (5, .getfield 10, 8, 0, 0), (8, .aload_n 1, 9, 0, 0), (9, .invokevirtual 210, 12, 0, 0), (12, .aload_n 0, 13, 0, 0), (13, .getfield 69, 16, 0, 0),
  (16, .aload_n 0, 17, 0, 0), (17, .getfield 10, 20, 0, 0), (20, .aload_n 1, 21, 0, 0), (21, .aload_n 0, 22, 0, 0), (22, .invokevirtual 231, 25, 0, 0), (25, .aload_n 0, 26, 0, 0), (26, .getfield 48, 29, 0, 0), (29, .invokevirtual 264, 32, 0, 0),
  (32, .ireturn, 33, 0, 0)]
abbrev M_X10_worthBy : MI := (yX10_worthBy, cX10_worthBy, 2, (some .int), 10, P_X10_worthBy)
theorem ok_X10_worthBy : okP 10 cX10_worthBy P_X10_worthBy = true := by decide +kernel
def P_X10_judged : List PE := [(0, .aload_n 0, 1, 0, 0), (1, .getfield 55, 4, 0, 0), (4, .aload_n 0, 5, 0, 0), (5, .getfield 10, 8, 0, 0), (8, .aload_n 0, 9, 0, 0), (9, .getfield 10, 12, 0, 0), (12, .getfield 145, 15, 0, 0), (15, .iload_n 1, 16, 0, 0),
  (16, .invokevirtual 185, 19, 0, 0), (19, .aload_n 0, 20, 0, 0), (20, .getfield 55, 23, 0, 0), (23, .invokevirtual 268, 26, 0, 0), (26, .ifCond .eq 5, 29, 31, 0), (29, .iconst 0, 30, 0, 0), (30, .ireturn, 31, 0, 0), (31, .aload_n 0, 32, 0, 0),
  (32, .getfield 69, 35, 0, 0), (35, .aload_n 0, 36, 0, 0), (36, .getfield 10, 39, 0, 0), (39, .aload_n 0, 40, 0, 0), (40, .getfield 10, 43, 0, 0), (43, .getfield 145, 46, 0, 0), (46, .iload_n 1, 47, 0, 0), (47, .aload_n 0, 48, 0, 0),
  (48, .getfield 55, 51, 0, 0), (51, .invokevirtual 325, 54, 0, 0), (54, .iload_n 2, 55, 0, 0), (55, .ifCond .ne 28, 58, 83, 0), (58, .aload_n 0, 59, 0, 0), (59, .getfield 69, 62, 0, 0), (62, .aload_n 0, 63, 0, 0), (63, .getfield 10, 66, 0, 0),
  (66, .aload_n 0, 67, 0, 0), (67, .getfield 10, 70, 0, 0), (70, .getfield 145, 73, 0, 0), (73, .aload_n 0, 74, 0, 0), (74, .invokevirtual 231, 77, 0, 0), (77, .invokevirtual 329, 80, 0, 0), (80, .goto 18, 83, 98, 0), (83, .aload_n 0, 84, 0, 0),
  (84, .invokevirtual 231, 87, 0, 0), (87, .iload_n 2, 88, 0, 0), (88, .aload_n 0, 89, 0, 0), (89, .getfield 69, 92, 0, 0), (92, .getfield 333, 95, 0, 0), (95, .invokevirtual 336, 98, 0, 0), (98, .ireturn, 99, 0, 0)]
abbrev M_X10_judged : MI := (yX10_judged, cX10_judged, 3, (some .int), 10, P_X10_judged)
theorem ok_X10_judged : okP 10 cX10_judged P_X10_judged = true := by decide +kernel
def P_X10_roundOf : List PE := [(0, .aload_n 0, 1, 0, 0), (1, .getfield 55, 4, 0, 0), (4, .aload_n 0, 5, 0, 0), (5, .getfield 10, 8, 0, 0), (8, .iload_n 1, 9, 0, 0), (9, .invokevirtual 340, 12, 0, 0), (12, .iconst 1, 13, 0, 1), (13, .istore_n 2, 14, 0, 0),
  (14, .iload_n 2, 15, 0, 0), (15, .bipush 60, 17, 0, 60), (17, .if_icmp .gt 65, 20, 82, 0), (20, .aload_n 0, 21, 0, 0), (21, .getfield 55, 24, 0, 0), (24, .aload_n 0, 25, 0, 0), (25, .getfield 10, 28, 0, 0), (28, .aload_n 0, 29, 0, 0),
  (29, .getfield 10, 32, 0, 0), (32, .getfield 145, 35, 0, 0), (35, .invokevirtual 344, 38, 0, 0), (38, .aload_n 0, 39, 0, 0), (39, .getfield 55, 42, 0, 0), (42, .getfield 275, 45, 0, 0), (45, .aload_n 0, 46, 0, 0), (46, .getfield 10, 49, 0, 0),
  (49, .getfield 176, 52, 0, 0), (52, .iload_n 1, 53, 0, 0), (53, .iaload, 54, 0, 0), (54, .if_icmp .eq 5, 57, 59, 0), (57, .iconst (-1), 58, 0, (-1)), (58, .ireturn, 59, 0, 0), (59, .aload_n 0, 60, 0, 0), (60, .getfield 55, 63, 0, 0),
  (63, .aload_n 0, 64, 0, 0), (64, .getfield 10, 67, 0, 0), (67, .iload_n 1, 68, 0, 0), (68, .invokevirtual 347, 71, 0, 0), (71, .ifCond .eq 5, 74, 76, 0), (74, .iload_n 2, 75, 0, 0), (75, .ireturn, 76, 0, 0), (76, .iinc 2 1, 79, 0, 1),
  (79, .goto (-65), 82, 14, 0), (82, .iconst (-1), 83, 0, (-1)), (83, .ireturn, 84, 0, 0)]
abbrev M_X10_roundOf : MI := (yX10_roundOf, cX10_roundOf, 3, (some .int), 10, P_X10_roundOf)
theorem ok_X10_roundOf : okP 10 cX10_roundOf P_X10_roundOf = true := by decide +kernel
def P_X10_safeLetters : List PE := [(0, .aload_n 0, 1, 0, 0), (1, .getfield 48, 4, 0, 0), (4, .aload_n 0, 5, 0, 0), (5, .getfield 10, 8, 0, 0), (8, .aload_n 0, 9, 0, 0), (9, .getfield 10, 12, 0, 0), (12, .getfield 145, 15, 0, 0), (15, .invokevirtual 210, 18, 0, 0),
  (18, .iconst 0, 19, 0, 0), (19, .istore_n 2, 20, 0, 0), (20, .iconst 0, 21, 0, 0), (21, .istore_n 3, 22, 0, 0), (22, .iload_n 3, 23, 0, 0), (23, .aload_n 0, 24, 0, 0), (24, .getfield 10, 27, 0, 0), (27, .getfield 176, 30, 0, 0),
  (30, .iload_n 1, 31, 0, 0), (31, .iaload, 32, 0, 0), (32, .if_icmp .ge 24, 35, 56, 0), (35, .aload_n 0, 36, 0, 0), (36, .iload_n 1, 37, 0, 0), (37, .iload_n 3, 38, 0, 0), (38, .invokevirtual 351, 41, 0, 0), (41, .ifCond .eq 9, 44, 50, 0),
  (44, .iload_n 2, 45, 0, 0), (45, .iconst 1, 46, 0, 1), (46, .iload_n 3, 47, 0, 0), (47, .ishl, 48, 0, 0), (48, .ior, 49, 0, 0), (49, .istore_n 2, 50, 0, 0), (50, .iinc 3 1, 53, 0, 1), (53, .goto (-31), 56, 22, 0),
  (56, .iload_n 2, 57, 0, 0), (57, .ireturn, 58, 0, 0)]
abbrev M_X10_safeLetters : MI := (yX10_safeLetters, cX10_safeLetters, 4, (some .int), 10, P_X10_safeLetters)
theorem ok_X10_safeLetters : okP 10 cX10_safeLetters P_X10_safeLetters = true := by decide +kernel
def P_X10_isSafe : List PE := [(0, .aload_n 0, 1, 0, 0), (1, .getfield 10, 4, 0, 0), (4, .getfield 354, 7, 0, 0), (7, .iload_n 1, 8, 0, 0), (8, .aaload, 9, 0, 0), (9, .astore_n 3, 10, 0, 0), (10, .aload_n 3, 11, 0, 0), (11, .iload_n 2, 12, 0, 0),
  (12, .iaload, 13, 0, 0), (13, .istore 4, 15, 0, 0), (15, .iconst 1, 16, 0, 1), (16, .istore 5, 18, 0, 0), (18, .iconst 0, 19, 0, 0), (19, .istore 6, 21, 0, 0), (21, .iload 6, 23, 0, 0), (23, .bipush 26, 25, 0, 26),
  (25, .if_icmp .ge 67, 28, 92, 0), (28, .iload 5, 30, 0, 0), (30, .ifCond .eq 62, 33, 92, 0), (33, .iload 6, 35, 0, 0), (35, .iload 4, 37, 0, 0), (37, .if_icmp .eq 49, 40, 86, 0), (40, .aload_n 3, 41, 0, 0), (41, .iload_n 2, 42, 0, 0),
  (42, .iload 6, 44, 0, 0), (44, .iastore, 45, 0, 0), (45, .aload_n 0, 46, 0, 0), (46, .getfield 55, 49, 0, 0), (49, .aload_n 0, 50, 0, 0), (50, .getfield 10, 53, 0, 0), (53, .aload_n 0, 54, 0, 0), (54, .getfield 10, 57, 0, 0),
  (57, .getfield 145, 60, 0, 0), (60, .iload_n 1, 61, 0, 0), (61, .invokevirtual 185, 64, 0, 0), (64, .aload_n 0, 65, 0, 0), (65, .getfield 48, 68, 0, 0), (68, .aload_n 0, 69, 0, 0), (69, .getfield 55, 72, 0, 0), (72, .iload_n 1, 73, 0, 0),
  (73, .invokevirtual 358, 76, 0, 0), (76, .ifCond .ne 7, 79, 83, 0), (79, .iconst 1, 80, 0, 1), (80, .goto 4, 83, 84, 0), (83, .iconst 0, 84, 0, 0), (84, .istore 5, 86, 0, 0), (86, .iinc 6 1, 89, 0, 1), (89, .goto (-68), 92, 21, 0),
  (92, .aload_n 3, 93, 0, 0), (93, .iload_n 2, 94, 0, 0), (94, .iload 4, 96, 0, 0), (96, .iastore, 97, 0, 0), (97, .iload 5, 99, 0, 0), (99, .ireturn, 100, 0, 0)]
abbrev M_X10_isSafe : MI := (yX10_isSafe, cX10_isSafe, 7, (some .boolean), 10, P_X10_isSafe)
theorem ok_X10_isSafe : okP 10 cX10_isSafe P_X10_isSafe = true := by decide +kernel
def P_X10_idleRules : List PE := [(0, .iconst 0, 1, 0, 0), (1, .istore_n 1, 2, 0, 0), (2, .iconst 0, 3, 0, 0), (3, .istore_n 2, 4, 0, 0), (4, .iload_n 2, 5, 0, 0), (5, .aload_n 0, 6, 0, 0), (6, .getfield 10, 9, 0, 0), (9, .getfield 135, 12, 0, 0),
  (12, .if_icmp .ge 23, 15, 35, 0), (15, .aload_n 0, 16, 0, 0), (16, .iload_n 2, 17, 0, 0), (17, .invokevirtual 362, 20, 0, 0), (20, .ifCond .eq 9, 23, 29, 0), (23, .iload_n 1, 24, 0, 0), (24, .iconst 1, 25, 0, 1), (25, .iload_n 2, 26, 0, 0),
  (26, .ishl, 27, 0, 0), (27, .ior, 28, 0, 0), (28, .istore_n 1, 29, 0, 0), (29, .iinc 2 1, 32, 0, 1), (32, .goto (-28), 35, 4, 0), (35, .iload_n 1, 36, 0, 0), (36, .ireturn, 37, 0, 0)]
abbrev M_X10_idleRules : MI := (yX10_idleRules, cX10_idleRules, 3, (some .int), 10, P_X10_idleRules)
theorem ok_X10_idleRules : okP 10 cX10_idleRules P_X10_idleRules = true := by decide +kernel
def P_X10_isIdle : List PE := [(0, .iconst 0, 1, 0, 0), (1, .istore_n 2, 2, 0, 0), (2, .iload_n 2, 3, 0, 0), (3, .aload_n 0, 4, 0, 0), (4, .getfield 10, 7, 0, 0), (7, .getfield 124, 10, 0, 0), (10, .if_icmp .ge 39, 13, 49, 0), (13, .aload_n 0, 14, 0, 0),
  (14, .getfield 55, 17, 0, 0), (17, .aload_n 0, 18, 0, 0), (18, .getfield 10, 21, 0, 0), (21, .iload_n 1, 22, 0, 0), (22, .iload_n 2, 23, 0, 0), (23, .invokevirtual 193, 26, 0, 0), (26, .aload_n 0, 27, 0, 0), (27, .getfield 55, 30, 0, 0),
  (30, .aload_n 0, 31, 0, 0), (31, .getfield 10, 34, 0, 0), (34, .iload_n 2, 35, 0, 0), (35, .invokevirtual 347, 38, 0, 0), (38, .ifCond .ne 5, 41, 43, 0), (41, .iconst 0, 42, 0, 0), (42, .ireturn, 43, 0, 0), (43, .iinc 2 1, 46, 0, 1),
  (46, .goto (-44), 49, 2, 0), (49, .iconst 1, 50, 0, 1), (50, .ireturn, 51, 0, 0)]
abbrev M_X10_isIdle : MI := (yX10_isIdle, cX10_isIdle, 3, (some .boolean), 10, P_X10_isIdle)
theorem ok_X10_isIdle : okP 10 cX10_isIdle P_X10_isIdle = true := by decide +kernel
def P_X10_wordsSaidAs : List PE := [(0, .iconst 0, 1, 0, 0), (1, .istore_n 2, 2, 0, 0), (2, .iconst 0, 3, 0, 0), (3, .istore_n 3, 4, 0, 0), (4, .iload_n 3, 5, 0, 0), (5, .aload_n 0, 6, 0, 0), (6, .getfield 10, 9, 0, 0), (9, .getfield 124, 12, 0, 0),
  (12, .if_icmp .ge 45, 15, 57, 0), (15, .aload_n 0, 16, 0, 0), (16, .getfield 55, 19, 0, 0), (19, .aload_n 0, 20, 0, 0), (20, .getfield 10, 23, 0, 0), (23, .aload_n 0, 24, 0, 0), (24, .getfield 10, 27, 0, 0), (27, .getfield 145, 30, 0, 0),
  (30, .iload_n 3, 31, 0, 0), (31, .invokevirtual 185, 34, 0, 0), (34, .aload_n 1, 35, 0, 0), (35, .aload_n 0, 36, 0, 0), (36, .getfield 55, 39, 0, 0), (39, .invokevirtual 365, 42, 0, 0), (42, .ifCond .eq 9, 45, 51, 0), (45, .iload_n 2, 46, 0, 0),
  (46, .iconst 1, 47, 0, 1), (47, .iload_n 3, 48, 0, 0), (48, .ishl, 49, 0, 0), (49, .ior, 50, 0, 0), (50, .istore_n 2, 51, 0, 0), (51, .iinc 3 1, 54, 0, 1), (54, .goto (-50), 57, 4, 0), (57, .iload_n 2, 58, 0, 0),
  (58, .ireturn, 59, 0, 0)]
abbrev M_X10_wordsSaidAs : MI := (yX10_wordsSaidAs, cX10_wordsSaidAs, 4, (some .int), 10, P_X10_wordsSaidAs)
theorem ok_X10_wordsSaidAs : okP 10 cX10_wordsSaidAs P_X10_wordsSaidAs = true := by decide +kernel
def P_X10_wordsTurningTo : List PE := [(0, .iconst 0, 1, 0, 0), (1, .istore_n 3, 2, 0, 0), (2, .iconst 0, 3, 0, 0), (3, .istore 4, 5, 0, 0), (5, .iload 4, 7, 0, 0), (7, .aload_n 0, 8, 0, 0), (8, .getfield 10, 11, 0, 0), (11, .getfield 124, 14, 0, 0),
  (14, .if_icmp .ge 37, 17, 51, 0), (17, .aload_n 0, 18, 0, 0), (18, .getfield 55, 21, 0, 0), (21, .aload_n 0, 22, 0, 0), (22, .getfield 10, 25, 0, 0), (25, .iload_n 2, 26, 0, 0), (26, .iload 4, 28, 0, 0), (28, .invokevirtual 193, 31, 0, 0),
  (31, .aload_n 1, 32, 0, 0), (32, .aload_n 0, 33, 0, 0), (33, .getfield 55, 36, 0, 0), (36, .invokevirtual 365, 39, 0, 0), (39, .ifCond .eq 6, 42, 45, 0), (42, .iinc 3 1, 45, 0, 1), (45, .iinc 4 1, 48, 0, 1), (48, .goto (-43), 51, 5, 0),
  (51, .iload_n 3, 52, 0, 0), (52, .ireturn, 53, 0, 0)]
abbrev M_X10_wordsTurningTo : MI := (yX10_wordsTurningTo, cX10_wordsTurningTo, 5, (some .int), 10, P_X10_wordsTurningTo)
theorem ok_X10_wordsTurningTo : okP 10 cX10_wordsTurningTo P_X10_wordsTurningTo = true := by decide +kernel
def P_X10_rulesTurningTo : List PE := [(0, .iconst 0, 1, 0, 0), (1, .istore_n 2, 2, 0, 0), (2, .iconst 0, 3, 0, 0), (3, .istore_n 3, 4, 0, 0), (4, .iload_n 3, 5, 0, 0), (5, .aload_n 0, 6, 0, 0), (6, .getfield 10, 9, 0, 0), (9, .getfield 135, 12, 0, 0),
  (12, .if_icmp .ge 24, 15, 36, 0), (15, .aload_n 0, 16, 0, 0), (16, .aload_n 1, 17, 0, 0), (17, .iload_n 3, 18, 0, 0), (18, .invokevirtual 368, 21, 0, 0), (21, .ifCond .le 9, 24, 30, 0), (24, .iload_n 2, 25, 0, 0), (25, .iconst 1, 26, 0, 1),
  (26, .iload_n 3, 27, 0, 0), (27, .ishl, 28, 0, 0), (28, .ior, 29, 0, 0), (29, .istore_n 2, 30, 0, 0), (30, .iinc 3 1, 33, 0, 1), (33, .goto (-29), 36, 4, 0), (36, .iload_n 2, 37, 0, 0), (37, .ireturn, 38, 0, 0)]
abbrev M_X10_rulesTurningTo : MI := (yX10_rulesTurningTo, cX10_rulesTurningTo, 4, (some .int), 10, P_X10_rulesTurningTo)
theorem ok_X10_rulesTurningTo : okP 10 cX10_rulesTurningTo P_X10_rulesTurningTo = true := by decide +kernel
def P_X10_pairsTurningTo : List PE := [(0, .iconst 0, 1, 0, 0), (1, .istore_n 2, 2, 0, 0), (2, .iconst 0, 3, 0, 0), (3, .istore_n 3, 4, 0, 0), (4, .iload_n 3, 5, 0, 0), (5, .aload_n 0, 6, 0, 0), (6, .getfield 10, 9, 0, 0), (9, .getfield 135, 12, 0, 0),
  (12, .if_icmp .ge 18, 15, 30, 0), (15, .iload_n 2, 16, 0, 0), (16, .aload_n 0, 17, 0, 0), (17, .aload_n 1, 18, 0, 0), (18, .iload_n 3, 19, 0, 0), (19, .invokevirtual 368, 22, 0, 0), (22, .iadd, 23, 0, 0), (23, .istore_n 2, 24, 0, 0),
  (24, .iinc 3 1, 27, 0, 1), (27, .goto (-23), 30, 4, 0), (30, .iload_n 2, 31, 0, 0), (31, .ireturn, 32, 0, 0)]
abbrev M_X10_pairsTurningTo : MI := (yX10_pairsTurningTo, cX10_pairsTurningTo, 4, (some .int), 10, P_X10_pairsTurningTo)
theorem ok_X10_pairsTurningTo : okP 10 cX10_pairsTurningTo P_X10_pairsTurningTo = true := by decide +kernel
def P_X10_fitting : List PE := [(0, .aload_n 3, 1, 0, 0), (1, .iload 4, 3, 0, 0), (3, .iaload, 4, 0, 0), (4, .istore 6, 6, 0, 0), (6, .iconst 0, 7, 0, 0), (7, .istore 7, 9, 0, 0), (9, .iconst 0, 10, 0, 0), (10, .istore 8, 12, 0, 0),
  (12, .iload 8, 14, 0, 0), (14, .iload 5, 16, 0, 0), (16, .if_icmp .ge 54, 19, 70, 0), (19, .aload_n 3, 20, 0, 0), (20, .iload 4, 22, 0, 0), (22, .iload 8, 24, 0, 0), (24, .iastore, 25, 0, 0), (25, .aload_n 0, 26, 0, 0),
  (26, .getfield 55, 29, 0, 0), (29, .aload_n 0, 30, 0, 0), (30, .getfield 10, 33, 0, 0), (33, .aload_n 0, 34, 0, 0), (34, .getfield 10, 37, 0, 0), (37, .getfield 145, 40, 0, 0), (40, .iload_n 2, 41, 0, 0), (41, .invokevirtual 185, 44, 0, 0),
  (44, .aload_n 1, 45, 0, 0), (45, .aload_n 0, 46, 0, 0), (46, .getfield 55, 49, 0, 0), (49, .invokevirtual 365, 52, 0, 0), (52, .ifCond .eq 12, 55, 64, 0), (55, .iload 7, 57, 0, 0), (57, .iconst 1, 58, 0, 1), (58, .iload 8, 60, 0, 0),
  (60, .ishl, 61, 0, 0), (61, .ior, 62, 0, 0), (62, .istore 7, 64, 0, 0), (64, .iinc 8 1, 67, 0, 1), (67, .goto (-55), 70, 12, 0), (70, .aload_n 3, 71, 0, 0), (71, .iload 4, 73, 0, 0), (73, .iload 6, 75, 0, 0),
  (75, .iastore, 76, 0, 0), (76, .iload 7, 78, 0, 0), (78, .ireturn, 79, 0, 0)]
abbrev M_X10_fitting : MI := (yX10_fitting, cX10_fitting, 9, (some .int), 10, P_X10_fitting)
theorem ok_X10_fitting : okP 10 cX10_fitting P_X10_fitting = true := by decide +kernel
end
section
def P_X11_isIn : List PE := [(0, .iload_n 0, 1, 0, 0), (1, .iload_n 1, 2, 0, 0), (2, .if_icmp .lt 12, 5, 14, 0), (5, .iload_n 0, 6, 0, 0), (6, .iload_n 2, 7, 0, 0), (7, .if_icmp .gt 7, 10, 14, 0), (10, .iconst 1, 11, 0, 1), (11, .goto 4, 14, 15, 0),
  (14, .iconst 0, 15, 0, 0), (15, .ireturn, 16, 0, 0)]
abbrev M_X11_isIn : MI := (yX11_isIn, cX11_isIn, 3, (some .boolean), 11, P_X11_isIn)
theorem ok_X11_isIn : okP 11 cX11_isIn P_X11_isIn = true := by decide +kernel
def P_X11_isWord : List PE := [(0, .iload_n 1, 1, 0, 0), (1, .iconst 0, 2, 0, 0), (2, .aload_n 0, 3, 0, 0), (3, .getfield 1, 6, 0, 0), (6, .iconst 1, 7, 0, 1), (7, .isub, 8, 0, 0), (8, .invokestatic 7, 11, 0, 0), (11, .ireturn, 12, 0, 0)]
abbrev M_X11_isWord : MI := (yX11_isWord, cX11_isWord, 2, (some .boolean), 11, P_X11_isWord)
theorem ok_X11_isWord : okP 11 cX11_isWord P_X11_isWord = true := by decide +kernel
def P_X11_isRule : List PE := [(0, .iload_n 1, 1, 0, 0), (1, .iconst 0, 2, 0, 0), (2, .aload_n 0, 3, 0, 0), (3, .getfield 11, 6, 0, 0), (6, .iconst 1, 7, 0, 1), (7, .isub, 8, 0, 0), (8, .invokestatic 7, 11, 0, 0), (11, .ireturn, 12, 0, 0)]
abbrev M_X11_isRule : MI := (yX11_isRule, cX11_isRule, 2, (some .boolean), 11, P_X11_isRule)
theorem ok_X11_isRule : okP 11 cX11_isRule P_X11_isRule = true := by decide +kernel
def P_X11_learn : List PE := [(0, .iload_n 1, 1, 0, 0), (1, .invokestatic 14, 4, 0, 0), (4, .ifCond .eq 13, 7, 17, 0), (7, .iload_n 2, 8, 0, 0), (8, .iconst 0, 9, 0, 0), (9, .bipush 99, 11, 0, 99), (11, .invokestatic 7, 14, 0, 0), (14, .ifCond .ne 6, 17, 20, 0),
  (17, .bipush (-2), 19, 0, (-2)), (19, .ireturn, 20, 0, 0), (20, .aload_n 0, 21, 0, 0), (21, .getfield 18, 24, 0, 0), (24, .iload_n 1, 25, 0, 0), (25, .iaload, 26, 0, 0), (26, .ifCond .ge 6, 29, 32, 0), (29, .bipush (-11), 31, 0, (-11)),
  (31, .ireturn, 32, 0, 0), (32, .aload_n 0, 33, 0, 0), (33, .getfield 22, 36, 0, 0), (36, .iload_n 1, 37, 0, 0), (37, .iaload, 38, 0, 0), (38, .iconst 1, 39, 0, 1), (39, .bipush 10, 41, 0, 10), (41, .invokestatic 7, 44, 0, 0),
  (44, .istore_n 3, 45, 0, 0), (45, .iconst 0, 46, 0, 0), (46, .istore 4, 48, 0, 0), (48, .iload 4, 50, 0, 0), (50, .aload_n 0, 51, 0, 0), (51, .getfield 22, 54, 0, 0), (54, .iload_n 1, 55, 0, 0), (55, .iaload, 56, 0, 0),
  (56, .if_icmp .ge 40, 59, 96, 0), (59, .iload_n 3, 60, 0, 0), (60, .ifCond .eq 28, 63, 88, 0), (63, .aload_n 0, 64, 0, 0), (64, .getfield 25, 67, 0, 0), (67, .bipush 40, 69, 0, 40), (69, .iload_n 1, 70, 0, 0), (70, .imul, 71, 0, 0),
  (71, .iload 4, 73, 0, 0), (73, .iadd, 74, 0, 0), (74, .iaload, 75, 0, 0), (75, .iconst 0, 76, 0, 0), (76, .bipush 25, 78, 0, 25), (78, .invokestatic 7, 81, 0, 0), (81, .ifCond .eq 7, 84, 88, 0), (84, .iconst 1, 85, 0, 1),
  (85, .goto 4, 88, 89, 0), (88, .iconst 0, 89, 0, 0), (89, .istore_n 3, 90, 0, 0), (90, .iinc 4 1, 93, 0, 1), (93, .goto (-45), 96, 48, 0), (96, .iload_n 3, 97, 0, 0), (97, .ifCond .ne 6, 100, 103, 0), (100, .bipush (-2), 102, 0, (-2)),
  (102, .ireturn, 103, 0, 0), (103, .aload_n 0, 104, 0, 0), (104, .getfield 1, 107, 0, 0), (107, .bipush 8, 109, 0, 8), (109, .if_icmp .ne 6, 112, 115, 0), (112, .bipush (-4), 114, 0, (-4)), (114, .ireturn, 115, 0, 0), (115, .iconst 0, 116, 0, 0),
  (116, .istore 4, 118, 0, 0), (118, .iload 4, 120, 0, 0), (120, .aload_n 0, 121, 0, 0), (121, .getfield 22, 124, 0, 0), (124, .iload_n 1, 125, 0, 0), (125, .iaload, 126, 0, 0), (126, .if_icmp .ge 36, 129, 162, 0), (129, .aload_n 0, 130, 0, 0),
  (130, .getfield 28, 133, 0, 0), (133, .bipush 10, 135, 0, 10), (135, .aload_n 0, 136, 0, 0), (136, .getfield 1, 139, 0, 0), (139, .imul, 140, 0, 0), (140, .iload 4, 142, 0, 0), (142, .iadd, 143, 0, 0), (143, .aload_n 0, 144, 0, 0),
  (144, .getfield 25, 147, 0, 0), (147, .bipush 40, 149, 0, 40), (149, .iload_n 1, 150, 0, 0), (150, .imul, 151, 0, 0), (151, .iload 4, 153, 0, 0), (153, .iadd, 154, 0, 0), (154, .iaload, 155, 0, 0), (155, .iastore, 156, 0, 0),
  (156, .iinc 4 1, 159, 0, 1), (159, .goto (-41), 162, 118, 0), (162, .aload_n 0, 163, 0, 0), (163, .getfield 31, 166, 0, 0), (166, .aload_n 0, 167, 0, 0), (167, .getfield 1, 170, 0, 0), (170, .aload_n 0, 171, 0, 0), (171, .getfield 22, 174, 0, 0),
  (174, .iload_n 1, 175, 0, 0), (175, .iaload, 176, 0, 0), (176, .iastore, 177, 0, 0), (177, .aload_n 0, 178, 0, 0), (178, .getfield 34, 181, 0, 0), (181, .aload_n 0, 182, 0, 0), (182, .getfield 1, 185, 0, 0), (185, .iload_n 2, 186, 0, 0),
  (186, .iastore, 187, 0, 0), (187, .aload_n 0, 188, 0, 0), (188, .dup, 189, 0, 0), (189, .getfield 1, 192, 0, 0), (192, .iconst 1, 193, 0, 1), (193, .iadd, 194, 0, 0), (194, .putfield 1, 197, 0, 0), (197, .aload_n 0, 198, 0, 0),
  (198, .getfield 1, 201, 0, 0), (201, .iconst 1, 202, 0, 1), (202, .isub, 203, 0, 0), (203, .ireturn, 204, 0, 0)]
abbrev M_X11_learn : MI := (yX11_learn, cX11_learn, 5, (some .int), 11, P_X11_learn)
theorem ok_X11_learn : okP 11 cX11_learn P_X11_learn = true := by decide +kernel
def P_X11_rule : List PE := [(0, .iload_n 1, 1, 0, 0), (1, .iconst 0, 2, 0, 0), (2, .iconst 5, 3, 0, 5), (3, .invokestatic 7, 6, 0, 0), (6, .ifCond .eq 23, 9, 29, 0), (9, .iload_n 2, 10, 0, 0), (10, .iconst 0, 11, 0, 0), (11, .bipush 25, 13, 0, 25),
  (13, .invokestatic 7, 16, 0, 0), (16, .ifCond .eq 13, 19, 29, 0), (19, .iload_n 3, 20, 0, 0), (20, .iconst 0, 21, 0, 0), (21, .bipush 25, 23, 0, 25), (23, .invokestatic 7, 26, 0, 0), (26, .ifCond .ne 6, 29, 32, 0), (29, .bipush (-2), 31, 0, (-2)),
  (31, .ireturn, 32, 0, 0), (32, .aload_n 0, 33, 0, 0), (33, .getfield 11, 36, 0, 0), (36, .bipush 6, 38, 0, 6), (38, .if_icmp .ne 6, 41, 44, 0), (41, .bipush (-4), 43, 0, (-4)), (43, .ireturn, 44, 0, 0), (44, .aload_n 0, 45, 0, 0),
  (45, .getfield 37, 48, 0, 0), (48, .aload_n 0, 49, 0, 0), (49, .getfield 11, 52, 0, 0), (52, .iload_n 1, 53, 0, 0), (53, .iastore, 54, 0, 0), (54, .aload_n 0, 55, 0, 0), (55, .getfield 40, 58, 0, 0), (58, .aload_n 0, 59, 0, 0),
  (59, .getfield 11, 62, 0, 0), (62, .iload_n 2, 63, 0, 0), (63, .iastore, 64, 0, 0), (64, .aload_n 0, 65, 0, 0), (65, .getfield 43, 68, 0, 0), (68, .aload_n 0, 69, 0, 0), (69, .getfield 11, 72, 0, 0), (72, .iload_n 3, 73, 0, 0),
  (73, .iastore, 74, 0, 0), (74, .aload_n 0, 75, 0, 0), (75, .dup, 76, 0, 0), (76, .getfield 11, 79, 0, 0), (79, .iconst 1, 80, 0, 1), (80, .iadd, 81, 0, 0), (81, .putfield 11, 84, 0, 0), (84, .aload_n 0, 85, 0, 0),
  (85, .getfield 11, 88, 0, 0), (88, .iconst 1, 89, 0, 1), (89, .isub, 90, 0, 0), (90, .ireturn, 91, 0, 0)]
abbrev M_X11_rule : MI := (yX11_rule, cX11_rule, 4, (some .int), 11, P_X11_rule)
theorem ok_X11_rule : okP 11 cX11_rule P_X11_rule = true := by decide +kernel
def P_X11_then : List PE := [(0, .aload_n 0, 1, 0, 0), (1, .iload_n 1, 2, 0, 0), (2, .invokevirtual 46, 5, 0, 0), (5, .ifCond .ne 6, 8, 11, 0), (8, .bipush (-2), 10, 0, (-2)), (10, .ireturn, 11, 0, 0), (11, .aload_n 0, 12, 0, 0), (12, .getfield 49, 15, 0, 0),
  (15, .bipush 8, 17, 0, 8), (17, .if_icmp .ne 6, 20, 23, 0), (20, .bipush (-4), 22, 0, (-4)), (22, .ireturn, 23, 0, 0), (23, .aload_n 0, 24, 0, 0), (24, .getfield 52, 27, 0, 0), (27, .aload_n 0, 28, 0, 0), (28, .getfield 49, 31, 0, 0),
  (31, .iload_n 1, 32, 0, 0), (32, .iastore, 33, 0, 0), (33, .aload_n 0, 34, 0, 0), (34, .dup, 35, 0, 0), (35, .getfield 49, 38, 0, 0), (38, .iconst 1, 39, 0, 1), (39, .iadd, 40, 0, 0), (40, .putfield 49, 43, 0, 0),
  (43, .aload_n 0, 44, 0, 0), (44, .getfield 49, 47, 0, 0), (47, .ireturn, 48, 0, 0)]
abbrev M_X11_then : MI := (yX11_then, cX11_then, 2, (some .int), 11, P_X11_then)
theorem ok_X11_then : okP 11 cX11_then P_X11_then = true := by decide +kernel
def P_X11_clear : List PE := [(0, .aload_n 0, 1, 0, 0), (1, .getfield 49, 4, 0, 0), (4, .istore_n 1, 5, 0, 0), (5, .aload_n 0, 6, 0, 0), (6, .iconst 0, 7, 0, 0), (7, .putfield 49, 10, 0, 0), (10, .iload_n 1, 11, 0, 0), (11, .ireturn, 12, 0, 0)]
abbrev M_X11_clear : MI := (yX11_clear, cX11_clear, 2, (some .int), 11, P_X11_clear)
theorem ok_X11_clear : okP 11 cX11_clear P_X11_clear = true := by decide +kernel
def P_X11_told : List PE := [(0, .iload_n 2, 1, 0, 0), (1, .tableswitch 174 0 6 #[43, 48, 68, 88, 108, 134, 154], 44, 0, 0), (44, .aload_n 0, 45, 0, 0), (45, .getfield 55, 48, 0, 0), (48, .ireturn, 49, 0, 0), (49, .aload_n 0, 50, 0, 0), (50, .iload_n 1, 51, 0, 0), (51, .invokevirtual 58, 54, 0, 0),
  (54, .ifCond .eq 12, 57, 66, 0), (57, .aload_n 0, 58, 0, 0), (58, .getfield 34, 61, 0, 0), (61, .iload_n 1, 62, 0, 0), (62, .iaload, 63, 0, 0), (63, .goto 5, 66, 68, 0), (66, .bipush (-100), 68, 0, (-100)), (68, .ireturn, 69, 0, 0),
  (69, .aload_n 0, 70, 0, 0), (70, .iload_n 1, 71, 0, 0), (71, .invokevirtual 46, 74, 0, 0), (74, .ifCond .eq 12, 77, 86, 0), (77, .aload_n 0, 78, 0, 0), (78, .getfield 40, 81, 0, 0), (81, .iload_n 1, 82, 0, 0), (82, .iaload, 83, 0, 0),
  (83, .goto 5, 86, 88, 0), (86, .bipush (-100), 88, 0, (-100)), (88, .ireturn, 89, 0, 0), (89, .aload_n 0, 90, 0, 0), (90, .iload_n 1, 91, 0, 0), (91, .invokevirtual 46, 94, 0, 0), (94, .ifCond .eq 12, 97, 106, 0), (97, .aload_n 0, 98, 0, 0),
  (98, .getfield 43, 101, 0, 0), (101, .iload_n 1, 102, 0, 0), (102, .iaload, 103, 0, 0), (103, .goto 5, 106, 108, 0), (106, .bipush (-100), 108, 0, (-100)), (108, .ireturn, 109, 0, 0), (109, .iload_n 1, 110, 0, 0), (110, .iconst 0, 111, 0, 0),
  (111, .aload_n 0, 112, 0, 0), (112, .getfield 49, 115, 0, 0), (115, .iconst 1, 116, 0, 1), (116, .isub, 117, 0, 0), (117, .invokestatic 7, 120, 0, 0), (120, .ifCond .eq 12, 123, 132, 0), (123, .aload_n 0, 124, 0, 0), (124, .getfield 52, 127, 0, 0),
  (127, .iload_n 1, 128, 0, 0), (128, .iaload, 129, 0, 0), (129, .goto 5, 132, 134, 0), (132, .bipush (-100), 134, 0, (-100)), (134, .ireturn, 135, 0, 0), (135, .aload_n 0, 136, 0, 0), (136, .iload_n 1, 137, 0, 0), (137, .invokevirtual 46, 140, 0, 0),
  (140, .ifCond .eq 12, 143, 152, 0), (143, .aload_n 0, 144, 0, 0), (144, .getfield 37, 147, 0, 0), (147, .iload_n 1, 148, 0, 0), (148, .iaload, 149, 0, 0), (149, .goto 5, 152, 154, 0), (152, .bipush (-100), 154, 0, (-100)), (154, .ireturn, 155, 0, 0),
  (155, .aload_n 0, 156, 0, 0), (156, .iload_n 1, 157, 0, 0), (157, .invokevirtual 58, 160, 0, 0), (160, .ifCond .eq 12, 163, 172, 0), (163, .aload_n 0, 164, 0, 0), (164, .getfield 31, 167, 0, 0), (167, .iload_n 1, 168, 0, 0), (168, .iaload, 169, 0, 0),
  (169, .goto 5, 172, 174, 0), (172, .bipush (-100), 174, 0, (-100)), (174, .ireturn, 175, 0, 0), (175, .aload_n 0, 176, 0, 0), (176, .iload_n 1, 177, 0, 0), (177, .invokevirtual 58, 180, 0, 0), (180, .ifCond .eq 14, 183, 194, 0), (183, .iload_n 2, 184, 0, 0),
  (184, .bipush 10, 186, 0, 10), (186, .bipush 19, 188, 0, 19), (188, .invokestatic 7, 191, 0, 0), (191, .ifCond .ne 6, 194, 197, 0), (194, .bipush (-100), 196, 0, (-100)), (196, .ireturn, 197, 0, 0), (197, .iload_n 2, 198, 0, 0), (198, .bipush 10, 200, 0, 10),
  (200, .isub, 201, 0, 0), (201, .aload_n 0, 202, 0, 0), (202, .getfield 31, 205, 0, 0), (205, .iload_n 1, 206, 0, 0), (206, .iaload, 207, 0, 0), (207, .if_icmp .ge 20, 210, 227, 0), (210, .aload_n 0, 211, 0, 0), (211, .getfield 28, 214, 0, 0),
  (214, .bipush 10, 216, 0, 10), (216, .iload_n 1, 217, 0, 0), (217, .imul, 218, 0, 0), (218, .iload_n 2, 219, 0, 0), (219, .iadd, 220, 0, 0), (220, .bipush 10, 222, 0, 10), (222, .isub, 223, 0, 0), (223, .iaload, 224, 0, 0),
  (224, .goto 4, 227, 228, 0), (227, .iconst (-1), 228, 0, (-1)), (228, .ireturn, 229, 0, 0)]
abbrev M_X11_told : MI := (yX11_told, cX11_told, 3, (some .int), 11, P_X11_told)
theorem ok_X11_told : okP 11 cX11_told P_X11_told = true := by decide +kernel
def P_X11_set : List PE := [(0, .iload_n 1, 1, 0, 0), (1, .iconst 0, 2, 0, 0), (2, .iconst 4, 3, 0, 4), (3, .invokestatic 7, 6, 0, 0), (6, .ifCond .eq 12, 9, 18, 0), (9, .aload_n 0, 10, 0, 0), (10, .iload_n 2, 11, 0, 0), (11, .iload_n 1, 12, 0, 0),
  (12, .invokevirtual 61, 15, 0, 0), (15, .goto 5, 18, 20, 0), (18, .bipush (-100), 20, 0, (-100)), (20, .istore 4, 22, 0, 0), (22, .iload_n 1, 23, 0, 0), (23, .ifCond .ne 8, 26, 31, 0), (26, .ldc 65, 28, 999, 67108863), (28, .goto 29, 31, 57, 0),
  (31, .iload_n 1, 32, 0, 0), (32, .iconst 1, 33, 0, 1), (33, .if_icmp .ne 8, 36, 41, 0), (36, .bipush 99, 38, 0, 99), (38, .goto 19, 41, 57, 0), (41, .iload_n 1, 42, 0, 0), (42, .iconst 4, 43, 0, 4), (43, .if_icmp .ne 12, 46, 55, 0),
  (46, .aload_n 0, 47, 0, 0), (47, .getfield 11, 50, 0, 0), (50, .iconst 1, 51, 0, 1), (51, .isub, 52, 0, 0), (52, .goto 5, 55, 57, 0), (55, .bipush 25, 57, 0, 25), (57, .istore 5, 59, 0, 0), (59, .iload 4, 61, 0, 0),
  (61, .bipush (-100), 63, 0, (-100)), (63, .if_icmp .eq 13, 66, 76, 0), (66, .iload_n 3, 67, 0, 0), (67, .iconst 0, 68, 0, 0), (68, .iload 5, 70, 0, 0), (70, .invokestatic 7, 73, 0, 0), (73, .ifCond .ne 6, 76, 79, 0), (76, .bipush (-100), 78, 0, (-100)),
  (78, .ireturn, 79, 0, 0), (79, .iload_n 1, 80, 0, 0), (80, .tableswitch 70 0 3 #[32, 40, 50, 60], 112, 0, 0), (112, .aload_n 0, 113, 0, 0), (113, .iload_n 3, 114, 0, 0), (114, .putfield 55, 117, 0, 0), (117, .goto 40, 120, 157, 0), (120, .aload_n 0, 121, 0, 0),
  (121, .getfield 34, 124, 0, 0), (124, .iload_n 2, 125, 0, 0), (125, .iload_n 3, 126, 0, 0), (126, .iastore, 127, 0, 0), (127, .goto 30, 130, 157, 0), (130, .aload_n 0, 131, 0, 0), (131, .getfield 40, 134, 0, 0), (134, .iload_n 2, 135, 0, 0),
  (135, .iload_n 3, 136, 0, 0), (136, .iastore, 137, 0, 0), (137, .goto 20, 140, 157, 0), (140, .aload_n 0, 141, 0, 0), (141, .getfield 43, 144, 0, 0), (144, .iload_n 2, 145, 0, 0), (145, .iload_n 3, 146, 0, 0), (146, .iastore, 147, 0, 0),
  (147, .goto 10, 150, 157, 0), (150, .aload_n 0, 151, 0, 0), (151, .getfield 52, 154, 0, 0), (154, .iload_n 2, 155, 0, 0), (155, .iload_n 3, 156, 0, 0), (156, .iastore, 157, 0, 0), (157, .iload 4, 159, 0, 0), (159, .ireturn, 160, 0, 0)]
abbrev M_X11_set : MI := (yX11_set, cX11_set, 6, (some .int), 11, P_X11_set)
theorem ok_X11_set : okP 11 cX11_set P_X11_set = true := by decide +kernel
def P_X11_feed : List PE := [(0, .iload_n 1, 1, 0, 0), (1, .iconst 0, 2, 0, 0), (2, .sipush 255, 5, 0, 255), (5, .invokestatic 7, 8, 0, 0), (8, .ifCond .ne 6, 11, 14, 0), (11, .bipush (-2), 13, 0, (-2)), (13, .ireturn, 14, 0, 0), (14, .aload_n 0, 15, 0, 0),
  (15, .getfield 66, 18, 0, 0), (18, .sipush 160, 21, 0, 160), (21, .if_icmp .ne 6, 24, 27, 0), (24, .bipush (-4), 26, 0, (-4)), (26, .ireturn, 27, 0, 0), (27, .aload_n 0, 28, 0, 0), (28, .getfield 69, 31, 0, 0), (31, .aload_n 0, 32, 0, 0),
  (32, .getfield 66, 35, 0, 0), (35, .iload_n 1, 36, 0, 0), (36, .iastore, 37, 0, 0), (37, .aload_n 0, 38, 0, 0), (38, .dup, 39, 0, 0), (39, .getfield 66, 42, 0, 0), (42, .iconst 1, 43, 0, 1), (43, .iadd, 44, 0, 0),
  (44, .putfield 66, 47, 0, 0), (47, .aload_n 0, 48, 0, 0), (48, .getfield 66, 51, 0, 0), (51, .ireturn, 52, 0, 0)]
abbrev M_X11_feed : MI := (yX11_feed, cX11_feed, 2, (some .int), 11, P_X11_feed)
theorem ok_X11_feed : okP 11 cX11_feed P_X11_feed = true := by decide +kernel
def P_X11_isLetter : List PE := [(0, .iload_n 1, 1, 0, 0), (1, .aload_n 0, 2, 0, 0), (2, .getfield 66, 5, 0, 0), (5, .if_icmp .ge 29, 8, 34, 0), (8, .aload_n 0, 9, 0, 0), (9, .getfield 69, 12, 0, 0), (12, .iload_n 1, 13, 0, 0), (13, .iaload, 14, 0, 0),
  (14, .bipush 97, 16, 0, 97), (16, .if_icmp .lt 18, 19, 34, 0), (19, .aload_n 0, 20, 0, 0), (20, .getfield 69, 23, 0, 0), (23, .iload_n 1, 24, 0, 0), (24, .iaload, 25, 0, 0), (25, .bipush 122, 27, 0, 122), (27, .if_icmp .gt 7, 30, 34, 0),
  (30, .iconst 1, 31, 0, 1), (31, .goto 4, 34, 35, 0), (34, .iconst 0, 35, 0, 0), (35, .ireturn, 36, 0, 0)]
abbrev M_X11_isLetter : MI := (yX11_isLetter, cX11_isLetter, 2, (some .boolean), 11, P_X11_isLetter)
theorem ok_X11_isLetter : okP 11 cX11_isLetter P_X11_isLetter = true := by decide +kernel
def P_X11_isDigit : List PE := [(0, .iload_n 1, 1, 0, 0), (1, .aload_n 0, 2, 0, 0), (2, .getfield 66, 5, 0, 0), (5, .if_icmp .ge 29, 8, 34, 0), (8, .aload_n 0, 9, 0, 0), (9, .getfield 69, 12, 0, 0), (12, .iload_n 1, 13, 0, 0), (13, .iaload, 14, 0, 0),
  (14, .bipush 48, 16, 0, 48), (16, .if_icmp .lt 18, 19, 34, 0), (19, .aload_n 0, 20, 0, 0), (20, .getfield 69, 23, 0, 0), (23, .iload_n 1, 24, 0, 0), (24, .iaload, 25, 0, 0), (25, .bipush 57, 27, 0, 57), (27, .if_icmp .gt 7, 30, 34, 0),
  (30, .iconst 1, 31, 0, 1), (31, .goto 4, 34, 35, 0), (34, .iconst 0, 35, 0, 0), (35, .ireturn, 36, 0, 0)]
abbrev M_X11_isDigit : MI := (yX11_isDigit, cX11_isDigit, 2, (some .boolean), 11, P_X11_isDigit)
theorem ok_X11_isDigit : okP 11 cX11_isDigit P_X11_isDigit = true := by decide +kernel
def P_X11_readWord : List PE := [(0, .aload_n 0, 1, 0, 0), (1, .aload_n 0, 2, 0, 0), (2, .getfield 72, 5, 0, 0), (5, .invokevirtual 75, 8, 0, 0), (8, .ifCond .eq 16, 11, 24, 0), (11, .aload_n 0, 12, 0, 0), (12, .dup, 13, 0, 0), (13, .getfield 72, 16, 0, 0),
  (16, .iconst 1, 17, 0, 1), (17, .iadd, 18, 0, 0), (18, .putfield 72, 21, 0, 0), (21, .goto (-21), 24, 0, 0), (24, .aload_n 0, 25, 0, 0), (25, .bipush 6, 27, 0, 6), (27, .putfield 78, 30, 0, 0), (30, .iconst 0, 31, 0, 0),
  (31, .istore_n 1, 32, 0, 0), (32, .iload_n 1, 33, 0, 0), (33, .bipush 12, 35, 0, 12), (35, .if_icmp .ge 135, 38, 170, 0), (38, .aload_n 0, 39, 0, 0), (39, .getfield 81, 42, 0, 0), (42, .iload_n 1, 43, 0, 0), (43, .iconst 1, 44, 0, 1),
  (44, .iadd, 45, 0, 0), (45, .iaload, 46, 0, 0), (46, .aload_n 0, 47, 0, 0), (47, .getfield 81, 50, 0, 0), (50, .iload_n 1, 51, 0, 0), (51, .iaload, 52, 0, 0), (52, .isub, 53, 0, 0), (53, .istore_n 2, 54, 0, 0),
  (54, .iload_n 2, 55, 0, 0), (55, .aload_n 0, 56, 0, 0), (56, .getfield 72, 59, 0, 0), (59, .aload_n 0, 60, 0, 0), (60, .getfield 84, 63, 0, 0), (63, .isub, 64, 0, 0), (64, .if_icmp .ne 7, 67, 71, 0), (67, .iconst 1, 68, 0, 1),
  (68, .goto 4, 71, 72, 0), (71, .iconst 0, 72, 0, 0), (72, .istore_n 3, 73, 0, 0), (73, .iconst 0, 74, 0, 0), (74, .istore 4, 76, 0, 0), (76, .iload 4, 78, 0, 0), (78, .iload_n 2, 79, 0, 0), (79, .if_icmp .ge 48, 82, 127, 0),
  (82, .iload_n 3, 83, 0, 0), (83, .ifCond .eq 44, 86, 127, 0), (86, .aload_n 0, 87, 0, 0), (87, .getfield 69, 90, 0, 0), (90, .aload_n 0, 91, 0, 0), (91, .getfield 84, 94, 0, 0), (94, .iload 4, 96, 0, 0), (96, .iadd, 97, 0, 0),
  (97, .iaload, 98, 0, 0), (98, .aload_n 0, 99, 0, 0), (99, .getfield 87, 102, 0, 0), (102, .aload_n 0, 103, 0, 0), (103, .getfield 81, 106, 0, 0), (106, .iload_n 1, 107, 0, 0), (107, .iaload, 108, 0, 0), (108, .iload 4, 110, 0, 0),
  (110, .iadd, 111, 0, 0), (111, .caload, 112, 0, 0), (112, .if_icmp .ne 7, 115, 119, 0), (115, .iconst 1, 116, 0, 1), (116, .goto 4, 119, 120, 0), (119, .iconst 0, 120, 0, 0), (120, .istore_n 3, 121, 0, 0), (121, .iinc 4 1, 124, 0, 1),
  (124, .goto (-48), 127, 76, 0), (127, .iload_n 3, 128, 0, 0), (128, .ifCond .eq 36, 131, 164, 0), (131, .aload_n 0, 132, 0, 0), (132, .iload_n 1, 133, 0, 0), (133, .bipush 6, 135, 0, 6), (135, .if_icmp .ge 7, 138, 142, 0), (138, .iconst 2, 139, 0, 2),
  (139, .goto 4, 142, 143, 0), (142, .iconst 3, 143, 0, 3), (143, .putfield 78, 146, 0, 0), (146, .aload_n 0, 147, 0, 0), (147, .iload_n 1, 148, 0, 0), (148, .bipush 6, 150, 0, 6), (150, .if_icmp .ge 7, 153, 157, 0), (153, .iload_n 1, 154, 0, 0),
  (154, .goto 7, 157, 161, 0), (157, .iload_n 1, 158, 0, 0), (158, .bipush 6, 160, 0, 6), (160, .isub, 161, 0, 0), (161, .putfield 91, 164, 0, 0), (164, .iinc 1 1, 167, 0, 1), (167, .goto (-135), 170, 32, 0), (170, .return_, 171, 0, 0)]
abbrev M_X11_readWord : MI := (yX11_readWord, cX11_readWord, 5, none, 11, P_X11_readWord)
theorem ok_X11_readWord : okP 11 cX11_readWord P_X11_readWord = true := by decide +kernel
def P_X11_readNumber : List PE := [(0, .aload_n 0, 1, 0, 0), (1, .iconst 0, 2, 0, 0), (2, .putfield 91, 5, 0, 0), (5, .aload_n 0, 6, 0, 0), (6, .aload_n 0, 7, 0, 0), (7, .getfield 72, 10, 0, 0), (10, .invokevirtual 94, 13, 0, 0), (13, .ifCond .eq 60, 16, 73, 0),
  (16, .aload_n 0, 17, 0, 0), (17, .aload_n 0, 18, 0, 0), (18, .getfield 72, 21, 0, 0), (21, .aload_n 0, 22, 0, 0), (22, .getfield 84, 25, 0, 0), (25, .isub, 26, 0, 0), (26, .iconst 4, 27, 0, 4), (27, .if_icmp .ge 26, 30, 53, 0),
  (30, .bipush 10, 32, 0, 10), (32, .aload_n 0, 33, 0, 0), (33, .getfield 91, 36, 0, 0), (36, .imul, 37, 0, 0), (37, .aload_n 0, 38, 0, 0), (38, .getfield 69, 41, 0, 0), (41, .aload_n 0, 42, 0, 0), (42, .getfield 72, 45, 0, 0),
  (45, .iaload, 46, 0, 0), (46, .iadd, 47, 0, 0), (47, .bipush 48, 49, 0, 48), (49, .isub, 50, 0, 0), (50, .goto 7, 53, 57, 0), (53, .aload_n 0, 54, 0, 0), (54, .getfield 91, 57, 0, 0), (57, .putfield 91, 60, 0, 0),
  (60, .aload_n 0, 61, 0, 0), (61, .dup, 62, 0, 0), (62, .getfield 72, 65, 0, 0), (65, .iconst 1, 66, 0, 1), (66, .iadd, 67, 0, 0), (67, .putfield 72, 70, 0, 0), (70, .goto (-65), 73, 5, 0), (73, .aload_n 0, 74, 0, 0),
  (74, .aload_n 0, 75, 0, 0), (75, .getfield 72, 78, 0, 0), (78, .aload_n 0, 79, 0, 0), (79, .getfield 84, 82, 0, 0), (82, .isub, 83, 0, 0), (83, .iconst 4, 84, 0, 4), (84, .if_icmp .le 8, 87, 92, 0), (87, .bipush 6, 89, 0, 6),
  (89, .goto 4, 92, 93, 0), (92, .iconst 1, 93, 0, 1), (93, .putfield 78, 96, 0, 0), (96, .return_, 97, 0, 0)]
abbrev M_X11_readNumber : MI := (yX11_readNumber, cX11_readNumber, 1, none, 11, P_X11_readNumber)
theorem ok_X11_readNumber : okP 11 cX11_readNumber P_X11_readNumber = true := by decide +kernel
def P_X11_next : List PE := [(0, .aload_n 0, 1, 0, 0), (1, .getfield 72, 4, 0, 0), (4, .aload_n 0, 5, 0, 0), (5, .getfield 66, 8, 0, 0), (8, .if_icmp .ge 44, 11, 52, 0), (11, .aload_n 0, 12, 0, 0), (12, .getfield 69, 15, 0, 0), (15, .aload_n 0, 16, 0, 0),
  (16, .getfield 72, 19, 0, 0), (19, .iaload, 20, 0, 0), (20, .bipush 32, 22, 0, 32), (22, .if_icmp .eq 17, 25, 39, 0), (25, .aload_n 0, 26, 0, 0), (26, .getfield 69, 29, 0, 0), (29, .aload_n 0, 30, 0, 0), (30, .getfield 72, 33, 0, 0),
  (33, .iaload, 34, 0, 0), (34, .bipush 10, 36, 0, 10), (36, .if_icmp .ne 16, 39, 52, 0), (39, .aload_n 0, 40, 0, 0), (40, .dup, 41, 0, 0), (41, .getfield 72, 44, 0, 0), (44, .iconst 1, 45, 0, 1), (45, .iadd, 46, 0, 0),
  (46, .putfield 72, 49, 0, 0), (49, .goto (-49), 52, 0, 0), (52, .aload_n 0, 53, 0, 0), (53, .aload_n 0, 54, 0, 0), (54, .getfield 72, 57, 0, 0), (57, .putfield 84, 60, 0, 0), (60, .aload_n 0, 61, 0, 0), (61, .getfield 72, 64, 0, 0),
  (64, .aload_n 0, 65, 0, 0), (65, .getfield 66, 68, 0, 0), (68, .if_icmp .ne 11, 71, 79, 0), (71, .aload_n 0, 72, 0, 0), (72, .iconst 5, 73, 0, 5), (73, .putfield 78, 76, 0, 0), (76, .goto 154, 79, 230, 0), (79, .aload_n 0, 80, 0, 0),
  (80, .aload_n 0, 81, 0, 0), (81, .getfield 72, 84, 0, 0), (84, .invokevirtual 75, 87, 0, 0), (87, .ifCond .eq 10, 90, 97, 0), (90, .aload_n 0, 91, 0, 0), (91, .invokevirtual 97, 94, 0, 0), (94, .goto 136, 97, 230, 0), (97, .aload_n 0, 98, 0, 0),
  (98, .aload_n 0, 99, 0, 0), (99, .getfield 72, 102, 0, 0), (102, .invokevirtual 94, 105, 0, 0), (105, .ifCond .eq 10, 108, 115, 0), (108, .aload_n 0, 109, 0, 0), (109, .invokevirtual 101, 112, 0, 0), (112, .goto 118, 115, 230, 0), (115, .aload_n 0, 116, 0, 0),
  (116, .aload_n 0, 117, 0, 0), (117, .getfield 69, 120, 0, 0), (120, .aload_n 0, 121, 0, 0), (121, .getfield 72, 124, 0, 0), (124, .iaload, 125, 0, 0), (125, .putfield 91, 128, 0, 0), (128, .aload_n 0, 129, 0, 0), (129, .getfield 91, 132, 0, 0),
  (132, .bipush 40, 134, 0, 40), (134, .if_icmp .eq 66, 137, 200, 0), (137, .aload_n 0, 138, 0, 0), (138, .getfield 91, 141, 0, 0), (141, .bipush 41, 143, 0, 41), (143, .if_icmp .eq 57, 146, 200, 0), (146, .aload_n 0, 147, 0, 0), (147, .getfield 91, 150, 0, 0),
  (150, .bipush 59, 152, 0, 59), (152, .if_icmp .eq 48, 155, 200, 0), (155, .aload_n 0, 156, 0, 0), (156, .getfield 91, 159, 0, 0), (159, .bipush 43, 161, 0, 43), (161, .if_icmp .eq 39, 164, 200, 0), (164, .aload_n 0, 165, 0, 0), (165, .getfield 91, 168, 0, 0),
  (168, .bipush 45, 170, 0, 45), (170, .if_icmp .eq 30, 173, 200, 0), (173, .aload_n 0, 174, 0, 0), (174, .getfield 91, 177, 0, 0), (177, .bipush 42, 179, 0, 42), (179, .if_icmp .eq 21, 182, 200, 0), (182, .aload_n 0, 183, 0, 0), (183, .getfield 91, 186, 0, 0),
  (186, .bipush 60, 188, 0, 60), (188, .if_icmp .eq 12, 191, 200, 0), (191, .aload_n 0, 192, 0, 0), (192, .getfield 91, 195, 0, 0), (195, .bipush 61, 197, 0, 61), (197, .if_icmp .ne 7, 200, 204, 0), (200, .iconst 1, 201, 0, 1), (201, .goto 4, 204, 205, 0),
  (204, .iconst 0, 205, 0, 0), (205, .istore_n 1, 206, 0, 0), (206, .aload_n 0, 207, 0, 0), (207, .iload_n 1, 208, 0, 0), (208, .ifCond .eq 7, 211, 215, 0), (211, .iconst 4, 212, 0, 4), (212, .goto 5, 215, 217, 0), (215, .bipush 6, 217, 0, 6),
  (217, .putfield 78, 220, 0, 0), (220, .aload_n 0, 221, 0, 0), (221, .dup, 222, 0, 0), (222, .getfield 72, 225, 0, 0), (225, .iconst 1, 226, 0, 1), (226, .iadd, 227, 0, 0), (227, .putfield 72, 230, 0, 0), (230, .return_, 231, 0, 0)]
abbrev M_X11_next : MI := (yX11_next, cX11_next, 2, none, 11, P_X11_next)
theorem ok_X11_next : okP 11 cX11_next P_X11_next = true := by decide +kernel
def P_X11_isSign : List PE := [(0, .aload_n 0, 1, 0, 0), (1, .getfield 78, 4, 0, 0), (4, .iconst 4, 5, 0, 4), (5, .if_icmp .ne 15, 8, 20, 0), (8, .aload_n 0, 9, 0, 0), (9, .getfield 91, 12, 0, 0), (12, .iload_n 1, 13, 0, 0), (13, .if_icmp .ne 7, 16, 20, 0),
  (16, .iconst 1, 17, 0, 1), (17, .goto 4, 20, 21, 0), (20, .iconst 0, 21, 0, 0), (21, .ireturn, 22, 0, 0)]
abbrev M_X11_isSign : MI := (yX11_isSign, cX11_isSign, 2, (some .boolean), 11, P_X11_isSign)
theorem ok_X11_isSign : okP 11 cX11_isSign P_X11_isSign = true := by decide +kernel
def P_X11_isKey : List PE := [(0, .aload_n 0, 1, 0, 0), (1, .getfield 78, 4, 0, 0), (4, .iconst 3, 5, 0, 3), (5, .if_icmp .ne 15, 8, 20, 0), (8, .aload_n 0, 9, 0, 0), (9, .getfield 91, 12, 0, 0), (12, .iload_n 1, 13, 0, 0), (13, .if_icmp .ne 7, 16, 20, 0),
  (16, .iconst 1, 17, 0, 1), (17, .goto 4, 20, 21, 0), (20, .iconst 0, 21, 0, 0), (21, .ireturn, 22, 0, 0)]
abbrev M_X11_isKey : MI := (yX11_isKey, cX11_isKey, 2, (some .boolean), 11, P_X11_isKey)
theorem ok_X11_isKey : okP 11 cX11_isKey P_X11_isKey = true := by decide +kernel
def P_X11_emit : List PE := [(0, .aload_n 0, 1, 0, 0), (1, .getfield 104, 4, 0, 0), (4, .aload_n 0, 5, 0, 0), (5, .getfield 107, 8, 0, 0), (8, .aload_n 0, 9, 0, 0), (9, .getfield 110, 12, 0, 0), (12, .iadd, 13, 0, 0), (13, .iload_n 1, 14, 0, 0),
  (14, .iastore, 15, 0, 0), (15, .aload_n 0, 16, 0, 0), (16, .dup, 17, 0, 0), (17, .getfield 110, 20, 0, 0), (20, .iconst 1, 21, 0, 1), (21, .iadd, 22, 0, 0), (22, .putfield 110, 25, 0, 0), (25, .return_, 26, 0, 0)]
abbrev M_X11_emit : MI := (yX11_emit, cX11_emit, 2, none, 11, P_X11_emit)
theorem ok_X11_emit : okP 11 cX11_emit P_X11_emit = true := by decide +kernel
def P_X11_rank : List PE := [(0, .iload_n 0, 1, 0, 0), (1, .bipush 10, 3, 0, 10), (3, .if_icmp .ne 7, 6, 10, 0), (6, .iconst 1, 7, 0, 1), (7, .goto 78, 10, 85, 0), (10, .iload_n 0, 11, 0, 0), (11, .bipush 11, 13, 0, 11), (13, .if_icmp .ne 7, 16, 20, 0),
  (16, .iconst 2, 17, 0, 2), (17, .goto 68, 20, 85, 0), (20, .iload_n 0, 21, 0, 0), (21, .bipush 12, 23, 0, 12), (23, .if_icmp .ne 7, 26, 30, 0), (26, .iconst 3, 27, 0, 3), (27, .goto 58, 30, 85, 0), (30, .iload_n 0, 31, 0, 0),
  (31, .bipush 13, 33, 0, 13), (33, .if_icmp .eq 9, 36, 42, 0), (36, .iload_n 0, 37, 0, 0), (37, .bipush 14, 39, 0, 14), (39, .if_icmp .ne 7, 42, 46, 0), (42, .iconst 4, 43, 0, 4), (43, .goto 42, 46, 85, 0), (46, .iload_n 0, 47, 0, 0),
  (47, .bipush 15, 49, 0, 15), (49, .if_icmp .eq 9, 52, 58, 0), (52, .iload_n 0, 53, 0, 0), (53, .bipush 16, 55, 0, 16), (55, .if_icmp .ne 7, 58, 62, 0), (58, .iconst 5, 59, 0, 5), (59, .goto 26, 62, 85, 0), (62, .iload_n 0, 63, 0, 0),
  (63, .bipush 17, 65, 0, 17), (65, .if_icmp .ne 8, 68, 73, 0), (68, .bipush 6, 70, 0, 6), (70, .goto 15, 73, 85, 0), (73, .iload_n 0, 74, 0, 0), (74, .bipush 18, 76, 0, 18), (76, .if_icmp .ne 8, 79, 84, 0), (79, .bipush 7, 81, 0, 7),
  (81, .goto 4, 84, 85, 0), (84, .iconst 0, 85, 0, 0), (85, .ireturn, 86, 0, 0)]
abbrev M_X11_rank : MI := (yX11_rank, cX11_rank, 1, (some .int), 11, P_X11_rank)
theorem ok_X11_rank : okP 11 cX11_rank P_X11_rank = true := by decide +kernel
def P_X11_doAll : List PE := [(0, .aload_n 0, 1, 0, 0), (1, .getfield 113, 4, 0, 0), (4, .ifCond .le 105, 7, 109, 0), (7, .aload_n 0, 8, 0, 0), (8, .getfield 116, 11, 0, 0), (11, .aload_n 0, 12, 0, 0), (12, .getfield 113, 15, 0, 0), (15, .iconst 1, 16, 0, 1),
  (16, .isub, 17, 0, 0), (17, .iaload, 18, 0, 0), (18, .bipush 30, 20, 0, 30), (20, .if_icmp .eq 89, 23, 109, 0), (23, .aload_n 0, 24, 0, 0), (24, .getfield 116, 27, 0, 0), (27, .aload_n 0, 28, 0, 0), (28, .getfield 113, 31, 0, 0),
  (31, .iconst 1, 32, 0, 1), (32, .isub, 33, 0, 0), (33, .iaload, 34, 0, 0), (34, .invokestatic 119, 37, 0, 0), (37, .iload_n 1, 38, 0, 0), (38, .if_icmp .lt 71, 41, 109, 0), (41, .aload_n 0, 42, 0, 0), (42, .dup, 43, 0, 0),
  (43, .getfield 113, 46, 0, 0), (46, .iconst 1, 47, 0, 1), (47, .isub, 48, 0, 0), (48, .putfield 113, 51, 0, 0), (51, .aload_n 0, 52, 0, 0), (52, .dup, 53, 0, 0), (53, .getfield 123, 56, 0, 0), (56, .aload_n 0, 57, 0, 0),
  (57, .getfield 116, 60, 0, 0), (60, .aload_n 0, 61, 0, 0), (61, .getfield 113, 64, 0, 0), (64, .iaload, 65, 0, 0), (65, .bipush 12, 67, 0, 12), (67, .if_icmp .eq 17, 70, 84, 0), (70, .aload_n 0, 71, 0, 0), (71, .getfield 116, 74, 0, 0),
  (74, .aload_n 0, 75, 0, 0), (75, .getfield 113, 78, 0, 0), (78, .iaload, 79, 0, 0), (79, .bipush 18, 81, 0, 18), (81, .if_icmp .ne 7, 84, 88, 0), (84, .iconst 1, 85, 0, 1), (85, .goto 4, 88, 89, 0), (88, .iconst 0, 89, 0, 0),
  (89, .isub, 90, 0, 0), (90, .putfield 123, 93, 0, 0), (93, .aload_n 0, 94, 0, 0), (94, .aload_n 0, 95, 0, 0), (95, .getfield 116, 98, 0, 0), (98, .aload_n 0, 99, 0, 0), (99, .getfield 113, 102, 0, 0), (102, .iaload, 103, 0, 0),
  (103, .invokevirtual 126, 106, 0, 0), (106, .goto (-106), 109, 0, 0), (109, .return_, 110, 0, 0)]
abbrev M_X11_doAll : MI := (yX11_doAll, cX11_doAll, 2, none, 11, P_X11_doAll)
theorem ok_X11_doAll : okP 11 cX11_doAll P_X11_doAll = true := by decide +kernel
def P_X11_await : List PE := [(0, .aload_n 0, 1, 0, 0), (1, .getfield 116, 4, 0, 0), (4, .aload_n 0, 5, 0, 0), (5, .getfield 113, 8, 0, 0), (8, .iload_n 1, 9, 0, 0), (9, .iastore, 10, 0, 0), (10, .aload_n 0, 11, 0, 0), (11, .dup, 12, 0, 0),
  (12, .getfield 113, 15, 0, 0), (15, .iconst 1, 16, 0, 1), (16, .iadd, 17, 0, 0), (17, .putfield 113, 20, 0, 0), (20, .return_, 21, 0, 0)]
abbrev M_X11_await : MI := (yX11_await, cX11_await, 2, none, 11, P_X11_await)
theorem ok_X11_await : okP 11 cX11_await P_X11_await = true := by decide +kernel
def P_X11_between : List PE := [(0, .aload_n 0, 1, 0, 0), (1, .bipush 43, 3, 0, 43), (3, .invokevirtual 130, 6, 0, 0), (6, .ifCond .eq 8, 9, 14, 0), (9, .bipush 15, 11, 0, 15), (11, .goto 86, 14, 97, 0), (14, .aload_n 0, 15, 0, 0), (15, .bipush 45, 17, 0, 45),
  (17, .invokevirtual 130, 20, 0, 0), (20, .ifCond .eq 8, 23, 28, 0), (23, .bipush 16, 25, 0, 16), (25, .goto 72, 28, 97, 0), (28, .aload_n 0, 29, 0, 0), (29, .bipush 42, 31, 0, 42), (31, .invokevirtual 130, 34, 0, 0), (34, .ifCond .eq 8, 37, 42, 0),
  (37, .bipush 17, 39, 0, 17), (39, .goto 58, 42, 97, 0), (42, .aload_n 0, 43, 0, 0), (43, .bipush 60, 45, 0, 60), (45, .invokevirtual 130, 48, 0, 0), (48, .ifCond .eq 8, 51, 56, 0), (51, .bipush 13, 53, 0, 13), (53, .goto 44, 56, 97, 0),
  (56, .aload_n 0, 57, 0, 0), (57, .bipush 61, 59, 0, 61), (59, .invokevirtual 130, 62, 0, 0), (62, .ifCond .eq 8, 65, 70, 0), (65, .bipush 14, 67, 0, 14), (67, .goto 30, 70, 97, 0), (70, .aload_n 0, 71, 0, 0), (71, .iconst 4, 72, 0, 4),
  (72, .invokevirtual 133, 75, 0, 0), (75, .ifCond .eq 8, 78, 83, 0), (78, .bipush 11, 80, 0, 11), (80, .goto 17, 83, 97, 0), (83, .aload_n 0, 84, 0, 0), (84, .iconst 3, 85, 0, 3), (85, .invokevirtual 133, 88, 0, 0), (88, .ifCond .eq 8, 91, 96, 0),
  (91, .bipush 10, 93, 0, 10), (93, .goto 4, 96, 97, 0), (96, .iconst (-1), 97, 0, (-1)), (97, .istore_n 1, 98, 0, 0), (98, .iload_n 1, 99, 0, 0), (99, .iconst (-1), 100, 0, (-1)), (100, .if_icmp .eq 23, 103, 123, 0), (103, .iload_n 1, 104, 0, 0),
  (104, .invokestatic 119, 107, 0, 0), (107, .iconst 4, 108, 0, 4), (108, .if_icmp .ne 17, 111, 125, 0), (111, .aload_n 0, 112, 0, 0), (112, .getfield 136, 115, 0, 0), (115, .aload_n 0, 116, 0, 0), (116, .getfield 140, 119, 0, 0), (119, .baload, 120, 0, 0),
  (120, .ifCond .eq 5, 123, 125, 0), (123, .iconst 0, 124, 0, 0), (124, .ireturn, 125, 0, 0), (125, .aload_n 0, 126, 0, 0), (126, .iload_n 1, 127, 0, 0), (127, .invokestatic 119, 130, 0, 0), (130, .invokevirtual 143, 133, 0, 0), (133, .aload_n 0, 134, 0, 0),
  (134, .iload_n 1, 135, 0, 0), (135, .invokevirtual 146, 138, 0, 0), (138, .aload_n 0, 139, 0, 0), (139, .getfield 136, 142, 0, 0), (142, .aload_n 0, 143, 0, 0), (143, .getfield 140, 146, 0, 0), (146, .iload_n 1, 147, 0, 0), (147, .invokestatic 119, 150, 0, 0),
  (150, .iconst 4, 151, 0, 4), (151, .if_icmp .eq 23, 154, 174, 0), (154, .iload_n 1, 155, 0, 0), (155, .invokestatic 119, 158, 0, 0), (158, .iconst 4, 159, 0, 4), (159, .if_icmp .le 19, 162, 178, 0), (162, .aload_n 0, 163, 0, 0), (163, .getfield 136, 166, 0, 0),
  (166, .aload_n 0, 167, 0, 0), (167, .getfield 140, 170, 0, 0), (170, .baload, 171, 0, 0), (171, .ifCond .eq 7, 174, 178, 0), (174, .iconst 1, 175, 0, 1), (175, .goto 4, 178, 179, 0), (178, .iconst 0, 179, 0, 0), (179, .bastore, 180, 0, 0),
  (180, .iconst 1, 181, 0, 1), (181, .ireturn, 182, 0, 0)]
abbrev M_X11_between : MI := (yX11_between, cX11_between, 2, (some .boolean), 11, P_X11_between)
theorem ok_X11_between : okP 11 cX11_between P_X11_between = true := by decide +kernel
def P_X11_closes : List PE := [(0, .aload_n 0, 1, 0, 0), (1, .bipush 41, 3, 0, 41), (3, .invokevirtual 130, 6, 0, 0), (6, .ifCond .eq 10, 9, 16, 0), (9, .aload_n 0, 10, 0, 0), (10, .getfield 140, 13, 0, 0), (13, .ifCond .ne 5, 16, 18, 0), (16, .iconst 0, 17, 0, 0),
  (17, .ireturn, 18, 0, 0), (18, .aload_n 0, 19, 0, 0), (19, .iconst 1, 20, 0, 1), (20, .invokevirtual 143, 23, 0, 0), (23, .aload_n 0, 24, 0, 0), (24, .dup, 25, 0, 0), (25, .getfield 113, 28, 0, 0), (28, .iconst 1, 29, 0, 1),
  (29, .isub, 30, 0, 0), (30, .putfield 113, 33, 0, 0), (33, .aload_n 0, 34, 0, 0), (34, .dup, 35, 0, 0), (35, .getfield 140, 38, 0, 0), (38, .iconst 1, 39, 0, 1), (39, .isub, 40, 0, 0), (40, .putfield 140, 43, 0, 0),
  (43, .aload_n 0, 44, 0, 0), (44, .dup, 45, 0, 0), (45, .getfield 123, 48, 0, 0), (48, .iconst 1, 49, 0, 1), (49, .isub, 50, 0, 0), (50, .putfield 123, 53, 0, 0), (53, .aload_n 0, 54, 0, 0), (54, .bipush 7, 56, 0, 7),
  (56, .invokevirtual 143, 59, 0, 0), (59, .iconst 1, 60, 0, 1), (60, .ireturn, 61, 0, 0)]
abbrev M_X11_closes : MI := (yX11_closes, cX11_closes, 1, (some .boolean), 11, P_X11_closes)
theorem ok_X11_closes : okP 11 cX11_closes P_X11_closes = true := by decide +kernel
def P_X11_ahead : List PE := [(0, .aload_n 0, 1, 0, 0), (1, .bipush 40, 3, 0, 40), (3, .invokevirtual 130, 6, 0, 0), (6, .ifCond .ne 24, 9, 30, 0), (9, .aload_n 0, 10, 0, 0), (10, .bipush 45, 12, 0, 45), (12, .invokevirtual 130, 15, 0, 0), (15, .ifCond .ne 15, 18, 30, 0),
  (18, .iload_n 1, 19, 0, 0), (19, .ifCond .eq 15, 22, 34, 0), (22, .aload_n 0, 23, 0, 0), (23, .iconst 5, 24, 0, 5), (24, .invokevirtual 133, 27, 0, 0), (27, .ifCond .eq 7, 30, 34, 0), (30, .iconst 1, 31, 0, 1), (31, .goto 4, 34, 35, 0),
  (34, .iconst 0, 35, 0, 0), (35, .istore_n 2, 36, 0, 0), (36, .iload_n 2, 37, 0, 0), (37, .ifCond .eq 11, 40, 48, 0), (40, .aload_n 0, 41, 0, 0), (41, .getfield 123, 44, 0, 0), (44, .iconst 5, 45, 0, 5), (45, .if_icmp .ne 5, 48, 50, 0),
  (48, .iconst 0, 49, 0, 0), (49, .ireturn, 50, 0, 0), (50, .aload_n 0, 51, 0, 0), (51, .dup, 52, 0, 0), (52, .getfield 123, 55, 0, 0), (55, .iconst 1, 56, 0, 1), (56, .iadd, 57, 0, 0), (57, .putfield 123, 60, 0, 0),
  (60, .aload_n 0, 61, 0, 0), (61, .bipush 40, 63, 0, 40), (63, .invokevirtual 130, 66, 0, 0), (66, .ifCond .eq 32, 69, 98, 0), (69, .aload_n 0, 70, 0, 0), (70, .bipush 30, 72, 0, 30), (72, .invokevirtual 146, 75, 0, 0), (75, .aload_n 0, 76, 0, 0),
  (76, .dup, 77, 0, 0), (77, .getfield 140, 80, 0, 0), (80, .iconst 1, 81, 0, 1), (81, .iadd, 82, 0, 0), (82, .putfield 140, 85, 0, 0), (85, .aload_n 0, 86, 0, 0), (86, .getfield 136, 89, 0, 0), (89, .aload_n 0, 90, 0, 0),
  (90, .getfield 140, 93, 0, 0), (93, .iconst 0, 94, 0, 0), (94, .bastore, 95, 0, 0), (95, .goto 22, 98, 117, 0), (98, .aload_n 0, 99, 0, 0), (99, .aload_n 0, 100, 0, 0), (100, .getfield 78, 103, 0, 0), (103, .iconst 3, 104, 0, 3),
  (104, .if_icmp .ne 8, 107, 112, 0), (107, .bipush 12, 109, 0, 12), (109, .goto 5, 112, 114, 0), (112, .bipush 18, 114, 0, 18), (114, .invokevirtual 146, 117, 0, 0), (117, .iconst 1, 118, 0, 1), (118, .ireturn, 119, 0, 0)]
abbrev M_X11_ahead : MI := (yX11_ahead, cX11_ahead, 3, (some .boolean), 11, P_X11_ahead)
theorem ok_X11_ahead : okP 11 cX11_ahead P_X11_ahead = true := by decide +kernel
def P_X11_readE : List PE := [(0, .aload_n 0, 1, 0, 0), (1, .sipush 160, 4, 0, 160), (4, .iload_n 1, 5, 0, 0), (5, .imul, 6, 0, 0), (6, .putfield 107, 9, 0, 0), (9, .aload_n 0, 10, 0, 0), (10, .iconst 0, 11, 0, 0), (11, .putfield 110, 14, 0, 0),
  (14, .aload_n 0, 15, 0, 0), (15, .iconst 0, 16, 0, 0), (16, .putfield 113, 19, 0, 0), (19, .aload_n 0, 20, 0, 0), (20, .iconst 0, 21, 0, 0), (21, .putfield 123, 24, 0, 0), (24, .aload_n 0, 25, 0, 0), (25, .iconst 0, 26, 0, 0),
  (26, .putfield 140, 29, 0, 0), (29, .aload_n 0, 30, 0, 0), (30, .getfield 136, 33, 0, 0), (33, .iconst 0, 34, 0, 0), (34, .iconst 0, 35, 0, 0), (35, .bastore, 36, 0, 0), (36, .iconst 1, 37, 0, 1), (37, .istore_n 2, 38, 0, 0),
  (38, .iconst 1, 39, 0, 1), (39, .istore_n 3, 40, 0, 0), (40, .iload_n 2, 41, 0, 0), (41, .ifCond .eq 55, 44, 96, 0), (44, .aload_n 0, 45, 0, 0), (45, .getfield 78, 48, 0, 0), (48, .iconst 1, 49, 0, 1), (49, .if_icmp .eq 11, 52, 60, 0),
  (52, .aload_n 0, 53, 0, 0), (53, .getfield 78, 56, 0, 0), (56, .iconst 2, 57, 0, 2), (57, .if_icmp .ne 39, 60, 96, 0), (60, .aload_n 0, 61, 0, 0), (61, .aload_n 0, 62, 0, 0), (62, .getfield 78, 65, 0, 0), (65, .iconst 1, 66, 0, 1),
  (66, .if_icmp .ne 12, 69, 78, 0), (69, .iconst (-1), 70, 0, (-1)), (70, .aload_n 0, 71, 0, 0), (71, .getfield 91, 74, 0, 0), (74, .isub, 75, 0, 0), (75, .goto 7, 78, 82, 0), (78, .aload_n 0, 79, 0, 0), (79, .getfield 91, 82, 0, 0),
  (82, .invokevirtual 126, 85, 0, 0), (85, .aload_n 0, 86, 0, 0), (86, .bipush 7, 88, 0, 7), (88, .invokevirtual 143, 91, 0, 0), (91, .iconst 0, 92, 0, 0), (92, .istore_n 2, 93, 0, 0), (93, .goto 115, 96, 208, 0), (96, .iload_n 2, 97, 0, 0),
  (97, .ifCond .eq 35, 100, 132, 0), (100, .aload_n 0, 101, 0, 0), (101, .bipush 45, 103, 0, 45), (103, .invokevirtual 130, 106, 0, 0), (106, .istore 4, 108, 0, 0), (108, .aload_n 0, 109, 0, 0), (109, .iload_n 3, 110, 0, 0), (110, .invokevirtual 149, 113, 0, 0),
  (113, .ifCond .ne 5, 116, 118, 0), (116, .iconst 0, 117, 0, 0), (117, .ireturn, 118, 0, 0), (118, .iload 4, 120, 0, 0), (120, .ifCond .ne 7, 123, 127, 0), (123, .iconst 1, 124, 0, 1), (124, .goto 4, 127, 128, 0), (127, .iconst 0, 128, 0, 0),
  (128, .istore_n 3, 129, 0, 0), (129, .goto 79, 132, 208, 0), (132, .aload_n 0, 133, 0, 0), (133, .bipush 59, 135, 0, 59), (135, .invokevirtual 130, 138, 0, 0), (138, .ifCond .eq 27, 141, 165, 0), (141, .aload_n 0, 142, 0, 0), (142, .getfield 140, 145, 0, 0),
  (145, .ifCond .ne 20, 148, 165, 0), (148, .aload_n 0, 149, 0, 0), (149, .iconst 1, 150, 0, 1), (150, .invokevirtual 143, 153, 0, 0), (153, .aload_n 0, 154, 0, 0), (154, .getfield 153, 157, 0, 0), (157, .iload_n 1, 158, 0, 0), (158, .aload_n 0, 159, 0, 0),
  (159, .getfield 110, 162, 0, 0), (162, .iastore, 163, 0, 0), (163, .iconst 1, 164, 0, 1), (164, .ireturn, 165, 0, 0), (165, .aload_n 0, 166, 0, 0), (166, .invokevirtual 156, 169, 0, 0), (169, .ifCond .eq 30, 172, 199, 0), (172, .iconst 1, 173, 0, 1),
  (173, .istore_n 2, 174, 0, 0), (174, .aload_n 0, 175, 0, 0), (175, .iconst 4, 176, 0, 4), (176, .invokevirtual 133, 179, 0, 0), (179, .ifCond .ne 11, 182, 190, 0), (182, .aload_n 0, 183, 0, 0), (183, .iconst 3, 184, 0, 3), (184, .invokevirtual 133, 187, 0, 0),
  (187, .ifCond .eq 7, 190, 194, 0), (190, .iconst 1, 191, 0, 1), (191, .goto 4, 194, 195, 0), (194, .iconst 0, 195, 0, 0), (195, .istore_n 3, 196, 0, 0), (196, .goto 12, 199, 208, 0), (199, .aload_n 0, 200, 0, 0), (200, .invokevirtual 160, 203, 0, 0),
  (203, .ifCond .ne 5, 206, 208, 0), (206, .iconst 0, 207, 0, 0), (207, .ireturn, 208, 0, 0), (208, .aload_n 0, 209, 0, 0), (209, .invokevirtual 163, 212, 0, 0), (212, .goto (-172), 215, 40, 0)]
abbrev M_X11_readE : MI := (yX11_readE, cX11_readE, 5, (some .boolean), 11, P_X11_readE)
theorem ok_X11_readE : okP 11 cX11_readE P_X11_readE = true := by decide +kernel
def P_X11_readAll : List PE := [(0, .aload_n 0, 1, 0, 0), (1, .iconst 0, 2, 0, 0), (2, .putfield 72, 5, 0, 0), (5, .iconst 0, 6, 0, 0), (6, .istore_n 2, 7, 0, 0), (7, .iload_n 2, 8, 0, 0), (8, .iconst 3, 9, 0, 3), (9, .if_icmp .ge 47, 12, 56, 0),
  (12, .aload_n 0, 13, 0, 0), (13, .invokevirtual 163, 16, 0, 0), (16, .aload_n 0, 17, 0, 0), (17, .iload_n 2, 18, 0, 0), (18, .invokevirtual 133, 21, 0, 0), (21, .ifCond .ne 8, 24, 29, 0), (24, .aload_n 0, 25, 0, 0), (25, .getfield 84, 28, 0, 0),
  (28, .ireturn, 29, 0, 0), (29, .aload_n 0, 30, 0, 0), (30, .invokevirtual 163, 33, 0, 0), (33, .aload_n 0, 34, 0, 0), (34, .iconst 3, 35, 0, 3), (35, .iload_n 1, 36, 0, 0), (36, .imul, 37, 0, 0), (37, .iload_n 2, 38, 0, 0),
  (38, .iadd, 39, 0, 0), (39, .invokevirtual 166, 42, 0, 0), (42, .ifCond .ne 8, 45, 50, 0), (45, .aload_n 0, 46, 0, 0), (46, .getfield 84, 49, 0, 0), (49, .ireturn, 50, 0, 0), (50, .iinc 2 1, 53, 0, 1), (53, .goto (-46), 56, 7, 0),
  (56, .aload_n 0, 57, 0, 0), (57, .invokevirtual 163, 60, 0, 0), (60, .aload_n 0, 61, 0, 0), (61, .getfield 78, 64, 0, 0), (64, .iconst 5, 65, 0, 5), (65, .if_icmp .ne 7, 68, 72, 0), (68, .iconst (-1), 69, 0, (-1)), (69, .goto 7, 72, 76, 0),
  (72, .aload_n 0, 73, 0, 0), (73, .getfield 84, 76, 0, 0), (76, .ireturn, 77, 0, 0)]
abbrev M_X11_readAll : MI := (yX11_readAll, cX11_readAll, 3, (some .int), 11, P_X11_readAll)
theorem ok_X11_readAll : okP 11 cX11_readAll P_X11_readAll = true := by decide +kernel
def P_X11_text : List PE := [(0, .aload_n 0, 1, 0, 0), (1, .getfield 169, 4, 0, 0), (4, .bipush 6, 6, 0, 6), (6, .if_icmp .ne 6, 9, 12, 0), (9, .bipush (-4), 11, 0, (-4)), (11, .ireturn, 12, 0, 0), (12, .aload_n 0, 13, 0, 0), (13, .aload_n 0, 14, 0, 0),
  (14, .getfield 169, 17, 0, 0), (17, .invokevirtual 172, 20, 0, 0), (20, .istore_n 1, 21, 0, 0), (21, .aload_n 0, 22, 0, 0), (22, .iconst 0, 23, 0, 0), (23, .putfield 66, 26, 0, 0), (26, .iload_n 1, 27, 0, 0), (27, .iconst (-1), 28, 0, (-1)),
  (28, .if_icmp .eq 8, 31, 36, 0), (31, .bipush (-100), 33, 0, (-100)), (33, .iload_n 1, 34, 0, 0), (34, .isub, 35, 0, 0), (35, .ireturn, 36, 0, 0), (36, .aload_n 0, 37, 0, 0), (37, .dup, 38, 0, 0), (38, .getfield 169, 41, 0, 0),
  (41, .iconst 1, 42, 0, 1), (42, .iadd, 43, 0, 0), (43, .putfield 169, 46, 0, 0), (46, .aload_n 0, 47, 0, 0), (47, .getfield 169, 50, 0, 0), (50, .iconst 1, 51, 0, 1), (51, .isub, 52, 0, 0), (52, .ireturn, 53, 0, 0)]
abbrev M_X11_text : MI := (yX11_text, cX11_text, 2, (some .int), 11, P_X11_text)
theorem ok_X11_text : okP 11 cX11_text P_X11_text = true := by decide +kernel
def P_X11_force : List PE := [(0, .iload_n 1, 1, 0, 0), (1, .iconst 0, 2, 0, 0), (2, .aload_n 0, 3, 0, 0), (3, .getfield 169, 6, 0, 0), (6, .iconst 1, 7, 0, 1), (7, .isub, 8, 0, 0), (8, .invokestatic 7, 11, 0, 0), (11, .ifCond .ne 6, 14, 17, 0),
  (14, .bipush (-2), 16, 0, (-2)), (16, .ireturn, 17, 0, 0), (17, .aload_n 0, 18, 0, 0), (18, .getfield 175, 21, 0, 0), (21, .istore_n 2, 22, 0, 0), (22, .aload_n 0, 23, 0, 0), (23, .iload_n 1, 24, 0, 0), (24, .putfield 175, 27, 0, 0),
  (27, .iload_n 2, 28, 0, 0), (28, .ireturn, 29, 0, 0)]
abbrev M_X11_force : MI := (yX11_force, cX11_force, 3, (some .int), 11, P_X11_force)
theorem ok_X11_force : okP 11 cX11_force P_X11_force = true := by decide +kernel
def P_X11_done : List PE := [(0, .iload_n 0, 1, 0, 0), (1, .tableswitch 91 11 17 #[77, 91, 55, 66, 43, 47, 51], 44, 0, 0), (44, .iload_n 1, 45, 0, 0), (45, .iload_n 2, 46, 0, 0), (46, .iadd, 47, 0, 0), (47, .ireturn, 48, 0, 0), (48, .iload_n 1, 49, 0, 0), (49, .iload_n 2, 50, 0, 0),
  (50, .isub, 51, 0, 0), (51, .ireturn, 52, 0, 0), (52, .iload_n 1, 53, 0, 0), (53, .iload_n 2, 54, 0, 0), (54, .imul, 55, 0, 0), (55, .ireturn, 56, 0, 0), (56, .iload_n 1, 57, 0, 0), (57, .iload_n 2, 58, 0, 0),
  (58, .if_icmp .ge 7, 61, 65, 0), (61, .iconst 1, 62, 0, 1), (62, .goto 4, 65, 66, 0), (65, .iconst 0, 66, 0, 0), (66, .ireturn, 67, 0, 0), (67, .iload_n 1, 68, 0, 0), (68, .iload_n 2, 69, 0, 0), (69, .if_icmp .ne 7, 72, 76, 0),
  (72, .iconst 1, 73, 0, 1), (73, .goto 4, 76, 77, 0), (76, .iconst 0, 77, 0, 0), (77, .ireturn, 78, 0, 0), (78, .iload_n 1, 79, 0, 0), (79, .ifCond .eq 11, 82, 90, 0), (82, .iload_n 2, 83, 0, 0), (83, .ifCond .eq 7, 86, 90, 0),
  (86, .iconst 1, 87, 0, 1), (87, .goto 4, 90, 91, 0), (90, .iconst 0, 91, 0, 0), (91, .ireturn, 92, 0, 0), (92, .iload_n 1, 93, 0, 0), (93, .ifCond .ne 7, 96, 100, 0), (96, .iload_n 2, 97, 0, 0), (97, .ifCond .eq 7, 100, 104, 0),
  (100, .iconst 1, 101, 0, 1), (101, .goto 4, 104, 105, 0), (104, .iconst 0, 105, 0, 0), (105, .ireturn, 106, 0, 0)]
abbrev M_X11_done : MI := (yX11_done, cX11_done, 3, (some .int), 11, P_X11_done)
theorem ok_X11_done : okP 11 cX11_done P_X11_done = true := by decide +kernel
def P_X11_says : List PE := [(0, .iconst 0, 1, 0, 0), (1, .istore_n 3, 2, 0, 0), (2, .iconst 0, 3, 0, 0), (3, .istore 4, 5, 0, 0), (5, .iload 4, 7, 0, 0), (7, .aload_n 0, 8, 0, 0), (8, .getfield 193, 11, 0, 0), (11, .iload_n 2, 12, 0, 0),
  (12, .iaload, 13, 0, 0), (13, .if_icmp .ge 36, 16, 49, 0), (16, .iload_n 3, 17, 0, 0), (17, .aload_n 0, 18, 0, 0), (18, .aload_n 0, 19, 0, 0), (19, .getfield 190, 22, 0, 0), (22, .bipush 40, 24, 0, 40), (24, .iload_n 2, 25, 0, 0),
  (25, .imul, 26, 0, 0), (26, .iload 4, 28, 0, 0), (28, .iadd, 29, 0, 0), (29, .iaload, 30, 0, 0), (30, .invokevirtual 211, 33, 0, 0), (33, .ifCond .eq 7, 36, 40, 0), (36, .iconst 1, 37, 0, 1), (37, .goto 4, 40, 41, 0),
  (40, .iconst 0, 41, 0, 0), (41, .iadd, 42, 0, 0), (42, .istore_n 3, 43, 0, 0), (43, .iinc 4 1, 46, 0, 1), (46, .goto (-41), 49, 5, 0), (49, .aload_n 0, 50, 0, 0), (50, .getfield 187, 53, 0, 0), (53, .iconst 0, 54, 0, 0),
  (54, .aload_n 0, 55, 0, 0), (55, .getfield 193, 58, 0, 0), (58, .iload_n 2, 59, 0, 0), (59, .iaload, 60, 0, 0), (60, .iastore, 61, 0, 0), (61, .aload_n 0, 62, 0, 0), (62, .getfield 187, 65, 0, 0), (65, .iconst 1, 66, 0, 1),
  (66, .iload_n 3, 67, 0, 0), (67, .iastore, 68, 0, 0), (68, .aload_n 0, 69, 0, 0), (69, .getfield 187, 72, 0, 0), (72, .iconst 2, 73, 0, 2), (73, .aload_n 0, 74, 0, 0), (74, .getfield 49, 77, 0, 0), (77, .iastore, 78, 0, 0),
  (78, .aload_n 0, 79, 0, 0), (79, .getfield 187, 82, 0, 0), (82, .iconst 3, 83, 0, 3), (83, .aload_n 0, 84, 0, 0), (84, .getfield 49, 87, 0, 0), (87, .ifCond .ne 7, 90, 94, 0), (90, .iconst 0, 91, 0, 0), (91, .goto 19, 94, 110, 0),
  (94, .aload_n 0, 95, 0, 0), (95, .getfield 43, 98, 0, 0), (98, .aload_n 0, 99, 0, 0), (99, .getfield 52, 102, 0, 0), (102, .aload_n 0, 103, 0, 0), (103, .getfield 49, 106, 0, 0), (106, .iconst 1, 107, 0, 1), (107, .isub, 108, 0, 0),
  (108, .iaload, 109, 0, 0), (109, .iaload, 110, 0, 0), (110, .iastore, 111, 0, 0), (111, .aload_n 0, 112, 0, 0), (112, .getfield 187, 115, 0, 0), (115, .iconst 4, 116, 0, 4), (116, .iload_n 2, 117, 0, 0), (117, .iastore, 118, 0, 0),
  (118, .aload_n 0, 119, 0, 0), (119, .getfield 187, 122, 0, 0), (122, .iconst 5, 123, 0, 5), (123, .aload_n 0, 124, 0, 0), (124, .getfield 34, 127, 0, 0), (127, .iload_n 2, 128, 0, 0), (128, .iaload, 129, 0, 0), (129, .iastore, 130, 0, 0),
  (130, .iconst 3, 131, 0, 3), (131, .aload_n 0, 132, 0, 0), (132, .getfield 175, 135, 0, 0), (135, .imul, 136, 0, 0), (136, .iload_n 1, 137, 0, 0), (137, .iadd, 138, 0, 0), (138, .istore 4, 140, 0, 0), (140, .iconst 0, 141, 0, 0),
  (141, .istore 5, 143, 0, 0), (143, .iconst 0, 144, 0, 0), (144, .istore 6, 146, 0, 0), (146, .iload 6, 148, 0, 0), (148, .aload_n 0, 149, 0, 0), (149, .getfield 153, 152, 0, 0), (152, .iload 4, 154, 0, 0), (154, .iaload, 155, 0, 0),
  (155, .if_icmp .ge 172, 158, 327, 0), (158, .aload_n 0, 159, 0, 0), (159, .getfield 104, 162, 0, 0), (162, .sipush 160, 165, 0, 160), (165, .iload 4, 167, 0, 0), (167, .imul, 168, 0, 0), (168, .iload 6, 170, 0, 0), (170, .iadd, 171, 0, 0),
  (171, .iaload, 172, 0, 0), (172, .istore 7, 174, 0, 0), (174, .iload 7, 176, 0, 0), (176, .ifCond .ge 20, 179, 196, 0), (179, .aload_n 0, 180, 0, 0), (180, .getfield 184, 183, 0, 0), (183, .iload 5, 185, 0, 0), (185, .iconst (-1), 186, 0, (-1)),
  (186, .iload 7, 188, 0, 0), (188, .isub, 189, 0, 0), (189, .iastore, 190, 0, 0), (190, .iinc 5 1, 193, 0, 1), (193, .goto 128, 196, 321, 0), (196, .iload 7, 198, 0, 0), (198, .bipush 6, 200, 0, 6), (200, .if_icmp .ge 23, 203, 223, 0),
  (203, .aload_n 0, 204, 0, 0), (204, .getfield 184, 207, 0, 0), (207, .iload 5, 209, 0, 0), (209, .aload_n 0, 210, 0, 0), (210, .getfield 187, 213, 0, 0), (213, .iload 7, 215, 0, 0), (215, .iaload, 216, 0, 0), (216, .iastore, 217, 0, 0),
  (217, .iinc 5 1, 220, 0, 1), (220, .goto 101, 223, 321, 0), (223, .iload 7, 225, 0, 0), (225, .bipush 12, 227, 0, 12), (227, .if_icmp .ne 32, 230, 259, 0), (230, .aload_n 0, 231, 0, 0), (231, .getfield 184, 234, 0, 0), (234, .iload 5, 236, 0, 0),
  (236, .iconst 1, 237, 0, 1), (237, .isub, 238, 0, 0), (238, .aload_n 0, 239, 0, 0), (239, .getfield 184, 242, 0, 0), (242, .iload 5, 244, 0, 0), (244, .iconst 1, 245, 0, 1), (245, .isub, 246, 0, 0), (246, .iaload, 247, 0, 0),
  (247, .ifCond .ne 7, 250, 254, 0), (250, .iconst 1, 251, 0, 1), (251, .goto 4, 254, 255, 0), (254, .iconst 0, 255, 0, 0), (255, .iastore, 256, 0, 0), (256, .goto 65, 259, 321, 0), (259, .iload 7, 261, 0, 0), (261, .bipush 18, 263, 0, 18),
  (263, .if_icmp .ne 25, 266, 288, 0), (266, .aload_n 0, 267, 0, 0), (267, .getfield 184, 270, 0, 0), (270, .iload 5, 272, 0, 0), (272, .iconst 1, 273, 0, 1), (273, .isub, 274, 0, 0), (274, .aload_n 0, 275, 0, 0), (275, .getfield 184, 278, 0, 0),
  (278, .iload 5, 280, 0, 0), (280, .iconst 1, 281, 0, 1), (281, .isub, 282, 0, 0), (282, .iaload, 283, 0, 0), (283, .ineg, 284, 0, 0), (284, .iastore, 285, 0, 0), (285, .goto 36, 288, 321, 0), (288, .iinc 5 (-1), 291, 0, (-1)),
  (291, .aload_n 0, 292, 0, 0), (292, .getfield 184, 295, 0, 0), (295, .iload 5, 297, 0, 0), (297, .iconst 1, 298, 0, 1), (298, .isub, 299, 0, 0), (299, .iload 7, 301, 0, 0), (301, .aload_n 0, 302, 0, 0), (302, .getfield 184, 305, 0, 0),
  (305, .iload 5, 307, 0, 0), (307, .iconst 1, 308, 0, 1), (308, .isub, 309, 0, 0), (309, .iaload, 310, 0, 0), (310, .aload_n 0, 311, 0, 0), (311, .getfield 184, 314, 0, 0), (314, .iload 5, 316, 0, 0), (316, .iaload, 317, 0, 0),
  (317, .invokestatic 214, 320, 0, 0), (320, .iastore, 321, 0, 0), (321, .iinc 6 1, 324, 0, 1), (324, .goto (-178), 327, 146, 0), (327, .iconst 0, 328, 0, 0), (328, .bipush 99, 330, 0, 99), (330, .aload_n 0, 331, 0, 0), (331, .getfield 184, 334, 0, 0),
  (334, .iconst 0, 335, 0, 0), (335, .iaload, 336, 0, 0), (336, .invokestatic 218, 339, 0, 0), (339, .invokestatic 223, 342, 0, 0), (342, .ireturn, 343, 0, 0)]
abbrev M_X11_says : MI := (yX11_says, cX11_says, 8, (some .int), 11, P_X11_says)
theorem ok_X11_says : okP 11 cX11_says P_X11_says = true := by decide +kernel
def P_X11_isVowel : List PE := [(0, .aload_n 0, 1, 0, 0), (1, .getfield 55, 4, 0, 0), (4, .iload_n 1, 5, 0, 0), (5, .ishr, 6, 0, 0), (6, .iconst 1, 7, 0, 1), (7, .iand, 8, 0, 0), (8, .iconst 1, 9, 0, 1), (9, .if_icmp .ne 7, 12, 16, 0),
  (12, .iconst 1, 13, 0, 1), (13, .goto 4, 16, 17, 0), (16, .iconst 0, 17, 0, 0), (17, .ireturn, 18, 0, 0)]
abbrev M_X11_isVowel : MI := (yX11_isVowel, cX11_isVowel, 2, (some .boolean), 11, P_X11_isVowel)
theorem ok_X11_isVowel : okP 11 cX11_isVowel P_X11_isVowel = true := by decide +kernel
def P_X11_turn : List PE := [(0, .iconst 0, 1, 0, 0), (1, .istore_n 2, 2, 0, 0), (2, .aload_n 0, 3, 0, 0), (3, .getfield 37, 6, 0, 0), (6, .iload_n 1, 7, 0, 0), (7, .iaload, 8, 0, 0), (8, .istore_n 3, 9, 0, 0), (9, .iconst 0, 10, 0, 0),
  (10, .istore 4, 12, 0, 0), (12, .iload 4, 14, 0, 0), (14, .aload_n 0, 15, 0, 0), (15, .getfield 226, 18, 0, 0), (18, .if_icmp .ge 131, 21, 149, 0), (21, .iload_n 3, 22, 0, 0), (22, .iconst 5, 23, 0, 5), (23, .if_icmp .ne 20, 26, 43, 0),
  (26, .aload_n 0, 27, 0, 0), (27, .getfield 196, 30, 0, 0), (30, .aload_n 0, 31, 0, 0), (31, .getfield 226, 34, 0, 0), (34, .iconst 1, 35, 0, 1), (35, .isub, 36, 0, 0), (36, .iload 4, 38, 0, 0), (38, .isub, 39, 0, 0),
  (39, .iaload, 40, 0, 0), (40, .goto 10, 43, 50, 0), (43, .aload_n 0, 44, 0, 0), (44, .getfield 196, 47, 0, 0), (47, .iload 4, 49, 0, 0), (49, .iaload, 50, 0, 0), (50, .istore 5, 52, 0, 0), (52, .iload_n 3, 53, 0, 0),
  (53, .iconst 2, 54, 0, 2), (54, .if_icmp .eq 17, 57, 71, 0), (57, .iload_n 3, 58, 0, 0), (58, .iconst 4, 59, 0, 4), (59, .if_icmp .ne 16, 62, 75, 0), (62, .aload_n 0, 63, 0, 0), (63, .iload 5, 65, 0, 0), (65, .invokevirtual 211, 68, 0, 0),
  (68, .ifCond .eq 7, 71, 75, 0), (71, .iconst 1, 72, 0, 1), (72, .goto 4, 75, 76, 0), (75, .iconst 0, 76, 0, 0), (76, .istore 6, 78, 0, 0), (78, .aload_n 0, 79, 0, 0), (79, .getfield 199, 82, 0, 0), (82, .iload_n 2, 83, 0, 0),
  (83, .iload 6, 85, 0, 0), (85, .ifCond .eq 18, 88, 103, 0), (88, .iload 5, 90, 0, 0), (90, .aload_n 0, 91, 0, 0), (91, .getfield 43, 94, 0, 0), (94, .iload_n 1, 95, 0, 0), (95, .iaload, 96, 0, 0), (96, .iadd, 97, 0, 0),
  (97, .bipush 26, 99, 0, 26), (99, .irem, 100, 0, 0), (100, .goto 5, 103, 105, 0), (103, .iload 5, 105, 0, 0), (105, .iastore, 106, 0, 0), (106, .iinc 2 1, 109, 0, 1), (109, .iload_n 3, 110, 0, 0), (110, .iconst 1, 111, 0, 1),
  (111, .if_icmp .eq 8, 114, 119, 0), (114, .iload_n 3, 115, 0, 0), (115, .iconst 3, 116, 0, 3), (116, .if_icmp .ne 27, 119, 143, 0), (119, .aload_n 0, 120, 0, 0), (120, .iload 5, 122, 0, 0), (122, .invokevirtual 211, 125, 0, 0), (125, .ifCond .eq 18, 128, 143, 0),
  (128, .aload_n 0, 129, 0, 0), (129, .getfield 199, 132, 0, 0), (132, .iload_n 2, 133, 0, 0), (133, .aload_n 0, 134, 0, 0), (134, .getfield 40, 137, 0, 0), (137, .iload_n 1, 138, 0, 0), (138, .iaload, 139, 0, 0), (139, .iastore, 140, 0, 0),
  (140, .iinc 2 1, 143, 0, 1), (143, .iinc 4 1, 146, 0, 1), (146, .goto (-134), 149, 12, 0), (149, .iload_n 3, 150, 0, 0), (150, .iconst 3, 151, 0, 3), (151, .if_icmp .ne 18, 154, 169, 0), (154, .aload_n 0, 155, 0, 0), (155, .getfield 199, 158, 0, 0),
  (158, .iload_n 2, 159, 0, 0), (159, .aload_n 0, 160, 0, 0), (160, .getfield 199, 163, 0, 0), (163, .iconst 0, 164, 0, 0), (164, .iaload, 165, 0, 0), (165, .iastore, 166, 0, 0), (166, .iinc 2 1, 169, 0, 1), (169, .aload_n 0, 170, 0, 0),
  (170, .iload_n 2, 171, 0, 0), (171, .bipush 40, 173, 0, 40), (173, .if_icmp .le 8, 176, 181, 0), (176, .bipush (-3), 178, 0, (-3)), (178, .goto 4, 181, 182, 0), (181, .iload_n 2, 182, 0, 0), (182, .putfield 226, 185, 0, 0), (185, .iconst 0, 186, 0, 0),
  (186, .istore 4, 188, 0, 0), (188, .iload 4, 190, 0, 0), (190, .aload_n 0, 191, 0, 0), (191, .getfield 226, 194, 0, 0), (194, .if_icmp .ge 23, 197, 217, 0), (197, .aload_n 0, 198, 0, 0), (198, .getfield 196, 201, 0, 0), (201, .iload 4, 203, 0, 0),
  (203, .aload_n 0, 204, 0, 0), (204, .getfield 199, 207, 0, 0), (207, .iload 4, 209, 0, 0), (209, .iaload, 210, 0, 0), (210, .iastore, 211, 0, 0), (211, .iinc 4 1, 214, 0, 1), (214, .goto (-26), 217, 188, 0), (217, .return_, 218, 0, 0)]
abbrev M_X11_turn : MI := (yX11_turn, cX11_turn, 7, none, 11, P_X11_turn)
theorem ok_X11_turn : okP 11 cX11_turn P_X11_turn = true := by decide +kernel
def P_X11_begin : List PE := [(0, .aload_n 0, 1, 0, 0), (1, .aload_n 0, 2, 0, 0), (2, .getfield 31, 5, 0, 0), (5, .iload_n 1, 6, 0, 0), (6, .iaload, 7, 0, 0), (7, .putfield 226, 10, 0, 0), (10, .iconst 0, 11, 0, 0), (11, .istore_n 2, 12, 0, 0),
  (12, .iload_n 2, 13, 0, 0), (13, .aload_n 0, 14, 0, 0), (14, .getfield 226, 17, 0, 0), (17, .if_icmp .ge 26, 20, 43, 0), (20, .aload_n 0, 21, 0, 0), (21, .getfield 196, 24, 0, 0), (24, .iload_n 2, 25, 0, 0), (25, .aload_n 0, 26, 0, 0),
  (26, .getfield 28, 29, 0, 0), (29, .bipush 10, 31, 0, 10), (31, .iload_n 1, 32, 0, 0), (32, .imul, 33, 0, 0), (33, .iload_n 2, 34, 0, 0), (34, .iadd, 35, 0, 0), (35, .iaload, 36, 0, 0), (36, .iastore, 37, 0, 0),
  (37, .iinc 2 1, 40, 0, 1), (40, .goto (-28), 43, 12, 0), (43, .return_, 44, 0, 0)]
abbrev M_X11_begin : MI := (yX11_begin, cX11_begin, 3, none, 11, P_X11_begin)
theorem ok_X11_begin : okP 11 cX11_begin P_X11_begin = true := by decide +kernel
def P_X11_turnByRow : List PE := [(0, .iconst 0, 1, 0, 0), (1, .istore_n 1, 2, 0, 0), (2, .iload_n 1, 3, 0, 0), (3, .aload_n 0, 4, 0, 0), (4, .getfield 49, 7, 0, 0), (7, .if_icmp .ge 26, 10, 33, 0), (10, .aload_n 0, 11, 0, 0), (11, .getfield 226, 14, 0, 0),
  (14, .ifCond .le 19, 17, 33, 0), (17, .aload_n 0, 18, 0, 0), (18, .aload_n 0, 19, 0, 0), (19, .getfield 52, 22, 0, 0), (22, .iload_n 1, 23, 0, 0), (23, .iaload, 24, 0, 0), (24, .invokevirtual 229, 27, 0, 0), (27, .iinc 1 1, 30, 0, 1),
  (30, .goto (-28), 33, 2, 0), (33, .return_, 34, 0, 0)]
abbrev M_X11_turnByRow : MI := (yX11_turnByRow, cX11_turnByRow, 2, none, 11, P_X11_turnByRow)
theorem ok_X11_turnByRow : okP 11 cX11_turnByRow P_X11_turnByRow = true := by decide +kernel
def P_X11_say : List PE := [(0, .aload_n 0, 1, 0, 0), (1, .iload_n 1, 2, 0, 0), (2, .invokevirtual 232, 5, 0, 0), (5, .aload_n 0, 6, 0, 0), (6, .invokevirtual 235, 9, 0, 0), (9, .aload_n 0, 10, 0, 0), (10, .getfield 193, 13, 0, 0), (13, .iload_n 1, 14, 0, 0),
  (14, .aload_n 0, 15, 0, 0), (15, .getfield 226, 18, 0, 0), (18, .iastore, 19, 0, 0), (19, .iconst 0, 20, 0, 0), (20, .istore_n 2, 21, 0, 0), (21, .iload_n 2, 22, 0, 0), (22, .aload_n 0, 23, 0, 0), (23, .getfield 226, 26, 0, 0),
  (26, .if_icmp .ge 26, 29, 52, 0), (29, .aload_n 0, 30, 0, 0), (30, .getfield 190, 33, 0, 0), (33, .bipush 40, 35, 0, 40), (35, .iload_n 1, 36, 0, 0), (36, .imul, 37, 0, 0), (37, .iload_n 2, 38, 0, 0), (38, .iadd, 39, 0, 0),
  (39, .aload_n 0, 40, 0, 0), (40, .getfield 196, 43, 0, 0), (43, .iload_n 2, 44, 0, 0), (44, .iaload, 45, 0, 0), (45, .iastore, 46, 0, 0), (46, .iinc 2 1, 49, 0, 1), (49, .goto (-28), 52, 21, 0), (52, .return_, 53, 0, 0)]
abbrev M_X11_say : MI := (yX11_say, cX11_say, 3, none, 11, P_X11_say)
theorem ok_X11_say : okP 11 cX11_say P_X11_say = true := by decide +kernel
def P_X11_sayAll : List PE := [(0, .iconst 0, 1, 0, 0), (1, .istore_n 1, 2, 0, 0), (2, .iload_n 1, 3, 0, 0), (3, .aload_n 0, 4, 0, 0), (4, .getfield 1, 7, 0, 0), (7, .if_icmp .ge 14, 10, 21, 0), (10, .aload_n 0, 11, 0, 0), (11, .iload_n 1, 12, 0, 0),
  (12, .invokevirtual 238, 15, 0, 0), (15, .iinc 1 1, 18, 0, 1), (18, .goto (-16), 21, 2, 0), (21, .return_, 22, 0, 0)]
abbrev M_X11_sayAll : MI := (yX11_sayAll, cX11_sayAll, 2, none, 11, P_X11_sayAll)
theorem ok_X11_sayAll : okP 11 cX11_sayAll P_X11_sayAll = true := by decide +kernel
def P_X11_letterAt : List PE := [(0, .iload_n 1, 1, 0, 0), (1, .bipush (-3), 3, 0, (-3)), (3, .if_icmp .ne 8, 6, 11, 0), (6, .bipush (-3), 8, 0, (-3)), (8, .goto 26, 11, 34, 0), (11, .iload_n 0, 12, 0, 0), (12, .iconst (-1), 13, 0, (-1)), (13, .if_icmp .ne 7, 16, 20, 0),
  (16, .iload_n 1, 17, 0, 0), (17, .goto 17, 20, 34, 0), (20, .iload_n 0, 21, 0, 0), (21, .iload_n 1, 22, 0, 0), (22, .if_icmp .ge 11, 25, 33, 0), (25, .aload_n 2, 26, 0, 0), (26, .iload_n 3, 27, 0, 0), (27, .iload_n 0, 28, 0, 0),
  (28, .iadd, 29, 0, 0), (29, .iaload, 30, 0, 0), (30, .goto 4, 33, 34, 0), (33, .iconst (-1), 34, 0, (-1)), (34, .ireturn, 35, 0, 0)]
abbrev M_X11_letterAt : MI := (yX11_letterAt, cX11_letterAt, 4, (some .int), 11, P_X11_letterAt)
theorem ok_X11_letterAt : okP 11 cX11_letterAt P_X11_letterAt = true := by decide +kernel
def P_X11_said : List PE := [(0, .aload_n 0, 1, 0, 0), (1, .iload_n 1, 2, 0, 0), (2, .invokevirtual 58, 5, 0, 0), (5, .ifCond .eq 13, 8, 18, 0), (8, .iload_n 2, 9, 0, 0), (9, .iconst (-1), 10, 0, (-1)), (10, .bipush 39, 12, 0, 39), (12, .invokestatic 7, 15, 0, 0),
  (15, .ifCond .ne 6, 18, 21, 0), (18, .bipush (-2), 20, 0, (-2)), (20, .ireturn, 21, 0, 0), (21, .aload_n 0, 22, 0, 0), (22, .iload_n 1, 23, 0, 0), (23, .invokevirtual 238, 26, 0, 0), (26, .iload_n 2, 27, 0, 0), (27, .aload_n 0, 28, 0, 0),
  (28, .getfield 193, 31, 0, 0), (31, .iload_n 1, 32, 0, 0), (32, .iaload, 33, 0, 0), (33, .aload_n 0, 34, 0, 0), (34, .getfield 190, 37, 0, 0), (37, .bipush 40, 39, 0, 40), (39, .iload_n 1, 40, 0, 0), (40, .imul, 41, 0, 0),
  (41, .invokestatic 241, 44, 0, 0), (44, .ireturn, 45, 0, 0)]
abbrev M_X11_said : MI := (yX11_said, cX11_said, 3, (some .int), 11, P_X11_said)
theorem ok_X11_said : okP 11 cX11_said P_X11_said = true := by decide +kernel
end
section
def P_X11_turned : List PE := [(0, .aload_n 0, 1, 0, 0), (1, .iload_n 1, 2, 0, 0), (2, .invokevirtual 58, 5, 0, 0), (5, .ifCond .eq 21, 8, 26, 0), (8, .aload_n 0, 9, 0, 0), (9, .iload_n 2, 10, 0, 0), (10, .invokevirtual 46, 13, 0, 0), (13, .ifCond .eq 13, 16, 26, 0),
  (16, .iload_n 3, 17, 0, 0), (17, .iconst (-1), 18, 0, (-1)), (18, .bipush 39, 20, 0, 39), (20, .invokestatic 7, 23, 0, 0), (23, .ifCond .ne 6, 26, 29, 0), (26, .bipush (-2), 28, 0, (-2)), (28, .ireturn, 29, 0, 0), (29, .aload_n 0, 30, 0, 0),
  (30, .iload_n 1, 31, 0, 0), (31, .invokevirtual 232, 34, 0, 0), (34, .aload_n 0, 35, 0, 0), (35, .iload_n 2, 36, 0, 0), (36, .invokevirtual 229, 39, 0, 0), (39, .iload_n 3, 40, 0, 0), (40, .aload_n 0, 41, 0, 0), (41, .getfield 226, 44, 0, 0),
  (44, .aload_n 0, 45, 0, 0), (45, .getfield 196, 48, 0, 0), (48, .iconst 0, 49, 0, 0), (49, .invokestatic 241, 52, 0, 0), (52, .ireturn, 53, 0, 0)]
abbrev M_X11_turned : MI := (yX11_turned, cX11_turned, 4, (some .int), 11, P_X11_turned)
theorem ok_X11_turned : okP 11 cX11_turned P_X11_turned = true := by decide +kernel
def P_X11_isAlike : List PE := [(0, .aload_n 0, 1, 0, 0), (1, .getfield 193, 4, 0, 0), (4, .iload_n 1, 5, 0, 0), (5, .iaload, 6, 0, 0), (6, .aload_n 0, 7, 0, 0), (7, .getfield 193, 10, 0, 0), (10, .iload_n 2, 11, 0, 0), (11, .iaload, 12, 0, 0),
  (12, .if_icmp .ne 16, 15, 28, 0), (15, .aload_n 0, 16, 0, 0), (16, .getfield 193, 19, 0, 0), (19, .iload_n 1, 20, 0, 0), (20, .iaload, 21, 0, 0), (21, .ifCond .le 7, 24, 28, 0), (24, .iconst 1, 25, 0, 1), (25, .goto 4, 28, 29, 0),
  (28, .iconst 0, 29, 0, 0), (29, .istore_n 3, 30, 0, 0), (30, .iconst 0, 31, 0, 0), (31, .istore 4, 33, 0, 0), (33, .iload 4, 35, 0, 0), (35, .aload_n 0, 36, 0, 0), (36, .getfield 193, 39, 0, 0), (39, .iload_n 1, 40, 0, 0),
  (40, .iaload, 41, 0, 0), (41, .if_icmp .ge 46, 44, 87, 0), (44, .iload_n 3, 45, 0, 0), (45, .ifCond .eq 42, 48, 87, 0), (48, .aload_n 0, 49, 0, 0), (49, .getfield 190, 52, 0, 0), (52, .bipush 40, 54, 0, 40), (54, .iload_n 1, 55, 0, 0),
  (55, .imul, 56, 0, 0), (56, .iload 4, 58, 0, 0), (58, .iadd, 59, 0, 0), (59, .iaload, 60, 0, 0), (60, .aload_n 0, 61, 0, 0), (61, .getfield 190, 64, 0, 0), (64, .bipush 40, 66, 0, 40), (66, .iload_n 2, 67, 0, 0),
  (67, .imul, 68, 0, 0), (68, .iload 4, 70, 0, 0), (70, .iadd, 71, 0, 0), (71, .iaload, 72, 0, 0), (72, .if_icmp .ne 7, 75, 79, 0), (75, .iconst 1, 76, 0, 1), (76, .goto 4, 79, 80, 0), (79, .iconst 0, 80, 0, 0),
  (80, .istore_n 3, 81, 0, 0), (81, .iinc 4 1, 84, 0, 1), (84, .goto (-51), 87, 33, 0), (87, .iload_n 3, 88, 0, 0), (88, .ireturn, 89, 0, 0)]
abbrev M_X11_isAlike : MI := (yX11_isAlike, cX11_isAlike, 5, (some .boolean), 11, P_X11_isAlike)
theorem ok_X11_isAlike : okP 11 cX11_isAlike P_X11_isAlike = true := by decide +kernel
def P_X11_alike : List PE := [(0, .iconst 0, 1, 0, 0), (1, .istore_n 1, 2, 0, 0), (2, .iconst 0, 3, 0, 0), (3, .istore_n 2, 4, 0, 0), (4, .iload_n 2, 5, 0, 0), (5, .aload_n 0, 6, 0, 0), (6, .getfield 1, 9, 0, 0), (9, .if_icmp .ge 49, 12, 58, 0),
  (12, .iconst 0, 13, 0, 0), (13, .istore_n 3, 14, 0, 0), (14, .iload_n 3, 15, 0, 0), (15, .aload_n 0, 16, 0, 0), (16, .getfield 1, 19, 0, 0), (19, .if_icmp .ge 33, 22, 52, 0), (22, .iload_n 1, 23, 0, 0), (23, .iload_n 2, 24, 0, 0),
  (24, .iload_n 3, 25, 0, 0), (25, .if_icmp .eq 18, 28, 43, 0), (28, .aload_n 0, 29, 0, 0), (29, .iload_n 2, 30, 0, 0), (30, .iload_n 3, 31, 0, 0), (31, .invokevirtual 245, 34, 0, 0), (34, .ifCond .eq 9, 37, 43, 0), (37, .iconst 1, 38, 0, 1),
  (38, .iload_n 2, 39, 0, 0), (39, .ishl, 40, 0, 0), (40, .goto 4, 43, 44, 0), (43, .iconst 0, 44, 0, 0), (44, .ior, 45, 0, 0), (45, .istore_n 1, 46, 0, 0), (46, .iinc 3 1, 49, 0, 1), (49, .goto (-35), 52, 14, 0),
  (52, .iinc 2 1, 55, 0, 1), (55, .goto (-51), 58, 4, 0), (58, .iload_n 1, 59, 0, 0), (59, .ireturn, 60, 0, 0)]
abbrev M_X11_alike : MI := (yX11_alike, cX11_alike, 4, (some .int), 11, P_X11_alike)
theorem ok_X11_alike : okP 11 cX11_alike P_X11_alike = true := by decide +kernel
def P_X11_hardOf : List PE := [(0, .aload_n 0, 1, 0, 0), (1, .getfield 193, 4, 0, 0), (4, .iload_n 1, 5, 0, 0), (5, .iaload, 6, 0, 0), (6, .bipush (-3), 8, 0, (-3)), (8, .if_icmp .ne 5, 11, 13, 0), (11, .iconst 0, 12, 0, 0), (12, .ireturn, 13, 0, 0),
  (13, .aload_n 0, 14, 0, 0), (14, .iconst 0, 15, 0, 0), (15, .iload_n 1, 16, 0, 0), (16, .invokevirtual 249, 19, 0, 0), (19, .istore_n 2, 20, 0, 0), (20, .aload_n 0, 21, 0, 0), (21, .getfield 49, 24, 0, 0), (24, .ifCond .ne 5, 27, 29, 0),
  (27, .iload_n 2, 28, 0, 0), (28, .ireturn, 29, 0, 0), (29, .aload_n 0, 30, 0, 0), (30, .getfield 52, 33, 0, 0), (33, .aload_n 0, 34, 0, 0), (34, .getfield 49, 37, 0, 0), (37, .iconst 1, 38, 0, 1), (38, .isub, 39, 0, 0),
  (39, .iaload, 40, 0, 0), (40, .istore_n 3, 41, 0, 0), (41, .aload_n 0, 42, 0, 0), (42, .getfield 37, 45, 0, 0), (45, .iload_n 3, 46, 0, 0), (46, .iaload, 47, 0, 0), (47, .iconst 1, 48, 0, 1), (48, .if_icmp .eq 13, 51, 61, 0),
  (51, .aload_n 0, 52, 0, 0), (52, .getfield 37, 55, 0, 0), (55, .iload_n 3, 56, 0, 0), (56, .iaload, 57, 0, 0), (57, .iconst 3, 58, 0, 3), (58, .if_icmp .ne 9, 61, 67, 0), (61, .iload_n 2, 62, 0, 0), (62, .iconst 1, 63, 0, 1),
  (63, .iadd, 64, 0, 0), (64, .goto 41, 67, 105, 0), (67, .aload_n 0, 68, 0, 0), (68, .getfield 37, 71, 0, 0), (71, .iload_n 3, 72, 0, 0), (72, .iaload, 73, 0, 0), (73, .iconst 2, 74, 0, 2), (74, .if_icmp .ne 9, 77, 83, 0),
  (77, .iconst 2, 78, 0, 2), (78, .iload_n 2, 79, 0, 0), (79, .imul, 80, 0, 0), (80, .goto 25, 83, 105, 0), (83, .aload_n 0, 84, 0, 0), (84, .getfield 37, 87, 0, 0), (87, .iload_n 3, 88, 0, 0), (88, .iaload, 89, 0, 0),
  (89, .iconst 5, 90, 0, 5), (90, .if_icmp .ne 14, 93, 104, 0), (93, .iload_n 2, 94, 0, 0), (94, .aload_n 0, 95, 0, 0), (95, .getfield 43, 98, 0, 0), (98, .iload_n 3, 99, 0, 0), (99, .iaload, 100, 0, 0), (100, .iadd, 101, 0, 0),
  (101, .goto 4, 104, 105, 0), (104, .iload_n 2, 105, 0, 0), (105, .ireturn, 106, 0, 0)]
abbrev M_X11_hardOf : MI := (yX11_hardOf, cX11_hardOf, 4, (some .int), 11, P_X11_hardOf)
theorem ok_X11_hardOf : okP 11 cX11_hardOf P_X11_hardOf = true := by decide +kernel
def P_X11_worthNow : List PE := [(0, .aload_n 0, 1, 0, 0), (1, .invokevirtual 252, 4, 0, 0), (4, .aload_n 0, 5, 0, 0), (5, .invokevirtual 255, 8, 0, 0), (8, .istore_n 1, 9, 0, 0), (9, .iconst 0, 10, 0, 0), (10, .istore_n 2, 11, 0, 0), (11, .iconst 0, 12, 0, 0),
  (12, .istore_n 3, 13, 0, 0), (13, .iload_n 3, 14, 0, 0), (14, .aload_n 0, 15, 0, 0), (15, .getfield 1, 18, 0, 0), (18, .if_icmp .ge 55, 21, 73, 0), (21, .aload_n 0, 22, 0, 0), (22, .getfield 193, 25, 0, 0), (25, .iload_n 3, 26, 0, 0),
  (26, .iaload, 27, 0, 0), (27, .bipush (-3), 29, 0, (-3)), (29, .if_icmp .eq 38, 32, 67, 0), (32, .iload_n 2, 33, 0, 0), (33, .aload_n 0, 34, 0, 0), (34, .iconst 1, 35, 0, 1), (35, .iload_n 3, 36, 0, 0), (36, .invokevirtual 249, 39, 0, 0),
  (39, .aload_n 0, 40, 0, 0), (40, .iload_n 3, 41, 0, 0), (41, .invokevirtual 259, 44, 0, 0), (44, .isub, 45, 0, 0), (45, .iload_n 1, 46, 0, 0), (46, .iload_n 3, 47, 0, 0), (47, .ishr, 48, 0, 0), (48, .iconst 1, 49, 0, 1),
  (49, .iand, 50, 0, 0), (50, .iconst 1, 51, 0, 1), (51, .if_icmp .ne 12, 54, 63, 0), (54, .aload_n 0, 55, 0, 0), (55, .iconst 2, 56, 0, 2), (56, .iload_n 3, 57, 0, 0), (57, .invokevirtual 249, 60, 0, 0), (60, .goto 4, 63, 64, 0),
  (63, .iconst 0, 64, 0, 0), (64, .isub, 65, 0, 0), (65, .iadd, 66, 0, 0), (66, .istore_n 2, 67, 0, 0), (67, .iinc 3 1, 70, 0, 1), (70, .goto (-57), 73, 13, 0), (73, .iload_n 2, 74, 0, 0), (74, .ireturn, 75, 0, 0)]
abbrev M_X11_worthNow : MI := (yX11_worthNow, cX11_worthNow, 4, (some .int), 11, P_X11_worthNow)
theorem ok_X11_worthNow : okP 11 cX11_worthNow P_X11_worthNow = true := by decide +kernel
def P_X11_isAsItWas : List PE := [(0, .aload_n 0, 1, 0, 0), (1, .getfield 226, 4, 0, 0), (4, .aload_n 0, 5, 0, 0), (5, .getfield 31, 8, 0, 0), (8, .iload_n 1, 9, 0, 0), (9, .iaload, 10, 0, 0), (10, .if_icmp .ne 7, 13, 17, 0), (13, .iconst 1, 14, 0, 1),
  (14, .goto 4, 17, 18, 0), (17, .iconst 0, 18, 0, 0), (18, .istore_n 2, 19, 0, 0), (19, .iconst 0, 20, 0, 0), (20, .istore_n 3, 21, 0, 0), (21, .iload_n 3, 22, 0, 0), (22, .aload_n 0, 23, 0, 0), (23, .getfield 31, 26, 0, 0),
  (26, .iload_n 1, 27, 0, 0), (27, .iaload, 28, 0, 0), (28, .if_icmp .ge 39, 31, 67, 0), (31, .iload_n 2, 32, 0, 0), (32, .ifCond .eq 35, 35, 67, 0), (35, .aload_n 0, 36, 0, 0), (36, .getfield 196, 39, 0, 0), (39, .iload_n 3, 40, 0, 0),
  (40, .iaload, 41, 0, 0), (41, .aload_n 0, 42, 0, 0), (42, .getfield 28, 45, 0, 0), (45, .bipush 10, 47, 0, 10), (47, .iload_n 1, 48, 0, 0), (48, .imul, 49, 0, 0), (49, .iload_n 3, 50, 0, 0), (50, .iadd, 51, 0, 0),
  (51, .iaload, 52, 0, 0), (52, .if_icmp .ne 7, 55, 59, 0), (55, .iconst 1, 56, 0, 1), (56, .goto 4, 59, 60, 0), (59, .iconst 0, 60, 0, 0), (60, .istore_n 2, 61, 0, 0), (61, .iinc 3 1, 64, 0, 1), (64, .goto (-43), 67, 21, 0),
  (67, .iload_n 2, 68, 0, 0), (68, .ireturn, 69, 0, 0)]
abbrev M_X11_isAsItWas : MI := (yX11_isAsItWas, cX11_isAsItWas, 4, (some .boolean), 11, P_X11_isAsItWas)
theorem ok_X11_isAsItWas : okP 11 cX11_isAsItWas P_X11_isAsItWas = true := by decide +kernel
def P_X11_round : List PE := [(0, .aload_n 0, 1, 0, 0), (1, .iload_n 1, 2, 0, 0), (2, .invokevirtual 232, 5, 0, 0), (5, .iconst 1, 6, 0, 1), (6, .istore_n 2, 7, 0, 0), (7, .iload_n 2, 8, 0, 0), (8, .bipush 60, 10, 0, 60), (10, .if_icmp .gt 34, 13, 44, 0),
  (13, .aload_n 0, 14, 0, 0), (14, .invokevirtual 235, 17, 0, 0), (17, .aload_n 0, 18, 0, 0), (18, .getfield 226, 21, 0, 0), (21, .bipush (-3), 23, 0, (-3)), (23, .if_icmp .ne 5, 26, 28, 0), (26, .iconst (-1), 27, 0, (-1)), (27, .ireturn, 28, 0, 0),
  (28, .aload_n 0, 29, 0, 0), (29, .iload_n 1, 30, 0, 0), (30, .invokevirtual 262, 33, 0, 0), (33, .ifCond .eq 5, 36, 38, 0), (36, .iload_n 2, 37, 0, 0), (37, .ireturn, 38, 0, 0), (38, .iinc 2 1, 41, 0, 1), (41, .goto (-34), 44, 7, 0),
  (44, .iconst (-1), 45, 0, (-1)), (45, .ireturn, 46, 0, 0)]
abbrev M_X11_round : MI := (yX11_round, cX11_round, 3, (some .int), 11, P_X11_round)
theorem ok_X11_round : okP 11 cX11_round P_X11_round = true := by decide +kernel
def P_X11_safe : List PE := [(0, .aload_n 0, 1, 0, 0), (1, .invokevirtual 252, 4, 0, 0), (4, .iconst 0, 5, 0, 0), (5, .istore_n 2, 6, 0, 0), (6, .iconst 0, 7, 0, 0), (7, .istore_n 3, 8, 0, 0), (8, .iload_n 3, 9, 0, 0), (9, .aload_n 0, 10, 0, 0),
  (10, .getfield 31, 13, 0, 0), (13, .iload_n 1, 14, 0, 0), (14, .iaload, 15, 0, 0), (15, .if_icmp .ge 117, 18, 132, 0), (18, .aload_n 0, 19, 0, 0), (19, .getfield 28, 22, 0, 0), (22, .bipush 10, 24, 0, 10), (24, .iload_n 1, 25, 0, 0),
  (25, .imul, 26, 0, 0), (26, .iload_n 3, 27, 0, 0), (27, .iadd, 28, 0, 0), (28, .iaload, 29, 0, 0), (29, .istore 4, 31, 0, 0), (31, .iconst 1, 32, 0, 1), (32, .istore 5, 34, 0, 0), (34, .iconst 0, 35, 0, 0),
  (35, .istore 6, 37, 0, 0), (37, .iload 6, 39, 0, 0), (39, .bipush 26, 41, 0, 26), (41, .if_icmp .ge 57, 44, 98, 0), (44, .iload 5, 46, 0, 0), (46, .ifCond .eq 52, 49, 98, 0), (49, .aload_n 0, 50, 0, 0), (50, .getfield 28, 53, 0, 0),
  (53, .bipush 10, 55, 0, 10), (55, .iload_n 1, 56, 0, 0), (56, .imul, 57, 0, 0), (57, .iload_n 3, 58, 0, 0), (58, .iadd, 59, 0, 0), (59, .iload 6, 61, 0, 0), (61, .iastore, 62, 0, 0), (62, .iload 6, 64, 0, 0),
  (64, .iload 4, 66, 0, 0), (66, .if_icmp .eq 26, 69, 92, 0), (69, .aload_n 0, 70, 0, 0), (70, .iload_n 1, 71, 0, 0), (71, .invokevirtual 238, 74, 0, 0), (74, .aload_n 0, 75, 0, 0), (75, .invokevirtual 255, 78, 0, 0), (78, .iload_n 1, 79, 0, 0),
  (79, .ishr, 80, 0, 0), (80, .iconst 1, 81, 0, 1), (81, .iand, 82, 0, 0), (82, .ifCond .ne 7, 85, 89, 0), (85, .iconst 1, 86, 0, 1), (86, .goto 4, 89, 90, 0), (89, .iconst 0, 90, 0, 0), (90, .istore 5, 92, 0, 0),
  (92, .iinc 6 1, 95, 0, 1), (95, .goto (-58), 98, 37, 0), (98, .aload_n 0, 99, 0, 0), (99, .getfield 28, 102, 0, 0), (102, .bipush 10, 104, 0, 10), (104, .iload_n 1, 105, 0, 0), (105, .imul, 106, 0, 0), (106, .iload_n 3, 107, 0, 0),
  (107, .iadd, 108, 0, 0), (108, .iload 4, 110, 0, 0), (110, .iastore, 111, 0, 0), (111, .iload_n 2, 112, 0, 0), (112, .iload 5, 114, 0, 0), (114, .ifCond .eq 9, 117, 123, 0), (117, .iconst 1, 118, 0, 1), (118, .iload_n 3, 119, 0, 0),
  (119, .ishl, 120, 0, 0), (120, .goto 4, 123, 124, 0), (123, .iconst 0, 124, 0, 0), (124, .ior, 125, 0, 0), (125, .istore_n 2, 126, 0, 0), (126, .iinc 3 1, 129, 0, 1), (129, .goto (-121), 132, 8, 0), (132, .iload_n 2, 133, 0, 0),
  (133, .ireturn, 134, 0, 0)]
abbrev M_X11_safe : MI := (yX11_safe, cX11_safe, 7, (some .int), 11, P_X11_safe)
theorem ok_X11_safe : okP 11 cX11_safe P_X11_safe = true := by decide +kernel
def P_X11_of : List PE := [(0, .aload_n 0, 1, 0, 0), (1, .iload_n 1, 2, 0, 0), (2, .invokevirtual 58, 5, 0, 0), (5, .ifCond .eq 12, 8, 17, 0), (8, .iload_n 2, 9, 0, 0), (9, .iconst 0, 10, 0, 0), (10, .iconst 4, 11, 0, 4), (11, .invokestatic 7, 14, 0, 0),
  (14, .ifCond .ne 6, 17, 20, 0), (17, .bipush (-2), 19, 0, (-2)), (19, .ireturn, 20, 0, 0), (20, .iload_n 2, 21, 0, 0), (21, .iconst 2, 22, 0, 2), (22, .if_icmp .le 22, 25, 44, 0), (25, .iload_n 2, 26, 0, 0), (26, .iconst 3, 27, 0, 3),
  (27, .if_icmp .ne 11, 30, 38, 0), (30, .aload_n 0, 31, 0, 0), (31, .iload_n 1, 32, 0, 0), (32, .invokevirtual 265, 35, 0, 0), (35, .goto 8, 38, 43, 0), (38, .aload_n 0, 39, 0, 0), (39, .iload_n 1, 40, 0, 0), (40, .invokevirtual 268, 43, 0, 0),
  (43, .ireturn, 44, 0, 0), (44, .aload_n 0, 45, 0, 0), (45, .iload_n 1, 46, 0, 0), (46, .invokevirtual 238, 49, 0, 0), (49, .iload_n 2, 50, 0, 0), (50, .ifCond .ne 11, 53, 61, 0), (53, .aload_n 0, 54, 0, 0), (54, .iload_n 1, 55, 0, 0),
  (55, .invokevirtual 259, 58, 0, 0), (58, .goto 24, 61, 82, 0), (61, .aload_n 0, 62, 0, 0), (62, .getfield 193, 65, 0, 0), (65, .iload_n 1, 66, 0, 0), (66, .iaload, 67, 0, 0), (67, .bipush (-3), 69, 0, (-3)), (69, .if_icmp .ne 7, 72, 76, 0),
  (72, .iconst 0, 73, 0, 0), (73, .goto 9, 76, 82, 0), (76, .aload_n 0, 77, 0, 0), (77, .iload_n 2, 78, 0, 0), (78, .iload_n 1, 79, 0, 0), (79, .invokevirtual 249, 82, 0, 0), (82, .ireturn, 83, 0, 0)]
abbrev M_X11_of : MI := (yX11_of, cX11_of, 3, (some .int), 11, P_X11_of)
theorem ok_X11_of : okP 11 cX11_of P_X11_of = true := by decide +kernel
def P_X11_apart : List PE := [(0, .iconst (-1), 1, 0, (-1)), (1, .istore_n 1, 2, 0, 0), (2, .iconst 0, 3, 0, 0), (3, .istore_n 2, 4, 0, 0), (4, .iload_n 2, 5, 0, 0), (5, .aload_n 0, 6, 0, 0), (6, .getfield 1, 9, 0, 0), (9, .if_icmp .ge 126, 12, 135, 0),
  (12, .iconst 0, 13, 0, 0), (13, .istore_n 3, 14, 0, 0), (14, .iload_n 3, 15, 0, 0), (15, .iload_n 2, 16, 0, 0), (16, .if_icmp .ge 113, 19, 129, 0), (19, .aload_n 0, 20, 0, 0), (20, .getfield 193, 23, 0, 0), (23, .iload_n 2, 24, 0, 0),
  (24, .iaload, 25, 0, 0), (25, .aload_n 0, 26, 0, 0), (26, .getfield 193, 29, 0, 0), (29, .iload_n 3, 30, 0, 0), (30, .iaload, 31, 0, 0), (31, .if_icmp .ne 92, 34, 123, 0), (34, .aload_n 0, 35, 0, 0), (35, .getfield 193, 38, 0, 0),
  (38, .iload_n 2, 39, 0, 0), (39, .iaload, 40, 0, 0), (40, .bipush (-3), 42, 0, (-3)), (42, .if_icmp .eq 81, 45, 123, 0), (45, .iconst 0, 46, 0, 0), (46, .istore 4, 48, 0, 0), (48, .iconst 0, 49, 0, 0), (49, .istore 5, 51, 0, 0),
  (51, .iload 5, 53, 0, 0), (53, .aload_n 0, 54, 0, 0), (54, .getfield 193, 57, 0, 0), (57, .iload_n 2, 58, 0, 0), (58, .iaload, 59, 0, 0), (59, .if_icmp .ge 46, 62, 105, 0), (62, .iload 4, 64, 0, 0), (64, .aload_n 0, 65, 0, 0),
  (65, .getfield 190, 68, 0, 0), (68, .bipush 40, 70, 0, 40), (70, .iload_n 2, 71, 0, 0), (71, .imul, 72, 0, 0), (72, .iload 5, 74, 0, 0), (74, .iadd, 75, 0, 0), (75, .iaload, 76, 0, 0), (76, .aload_n 0, 77, 0, 0),
  (77, .getfield 190, 80, 0, 0), (80, .bipush 40, 82, 0, 40), (82, .iload_n 3, 83, 0, 0), (83, .imul, 84, 0, 0), (84, .iload 5, 86, 0, 0), (86, .iadd, 87, 0, 0), (87, .iaload, 88, 0, 0), (88, .if_icmp .eq 7, 91, 95, 0),
  (91, .iconst 1, 92, 0, 1), (92, .goto 4, 95, 96, 0), (95, .iconst 0, 96, 0, 0), (96, .iadd, 97, 0, 0), (97, .istore 4, 99, 0, 0), (99, .iinc 5 1, 102, 0, 1), (102, .goto (-51), 105, 51, 0), (105, .iload_n 1, 106, 0, 0),
  (106, .iconst (-1), 107, 0, (-1)), (107, .if_icmp .eq 9, 110, 116, 0), (110, .iload 4, 112, 0, 0), (112, .iload_n 1, 113, 0, 0), (113, .if_icmp .ge 8, 116, 121, 0), (116, .iload 4, 118, 0, 0), (118, .goto 4, 121, 122, 0), (121, .iload_n 1, 122, 0, 0),
  (122, .istore_n 1, 123, 0, 0), (123, .iinc 3 1, 126, 0, 1), (126, .goto (-112), 129, 14, 0), (129, .iinc 2 1, 132, 0, 1), (132, .goto (-128), 135, 4, 0), (135, .iload_n 1, 136, 0, 0), (136, .ireturn, 137, 0, 0)]
abbrev M_X11_apart : MI := (yX11_apart, cX11_apart, 6, (some .int), 11, P_X11_apart)
theorem ok_X11_apart : okP 11 cX11_apart P_X11_apart = true := by decide +kernel
def P_X11_idle : List PE := [(0, .iconst 0, 1, 0, 0), (1, .istore_n 1, 2, 0, 0), (2, .iconst 0, 3, 0, 0), (3, .istore_n 2, 4, 0, 0), (4, .iload_n 2, 5, 0, 0), (5, .aload_n 0, 6, 0, 0), (6, .getfield 11, 9, 0, 0), (9, .if_icmp .ge 65, 12, 74, 0),
  (12, .iconst 1, 13, 0, 1), (13, .istore_n 3, 14, 0, 0), (14, .iconst 0, 15, 0, 0), (15, .istore 4, 17, 0, 0), (17, .iload 4, 19, 0, 0), (19, .aload_n 0, 20, 0, 0), (20, .getfield 1, 23, 0, 0), (23, .if_icmp .ge 31, 26, 54, 0),
  (26, .iload_n 3, 27, 0, 0), (27, .ifCond .eq 27, 30, 54, 0), (30, .aload_n 0, 31, 0, 0), (31, .iload 4, 33, 0, 0), (33, .invokevirtual 232, 36, 0, 0), (36, .aload_n 0, 37, 0, 0), (37, .iload_n 2, 38, 0, 0), (38, .invokevirtual 229, 41, 0, 0),
  (41, .aload_n 0, 42, 0, 0), (42, .iload 4, 44, 0, 0), (44, .invokevirtual 262, 47, 0, 0), (47, .istore_n 3, 48, 0, 0), (48, .iinc 4 1, 51, 0, 1), (51, .goto (-34), 54, 17, 0), (54, .iload_n 1, 55, 0, 0), (55, .iload_n 3, 56, 0, 0),
  (56, .ifCond .eq 9, 59, 65, 0), (59, .iconst 1, 60, 0, 1), (60, .iload_n 2, 61, 0, 0), (61, .ishl, 62, 0, 0), (62, .goto 4, 65, 66, 0), (65, .iconst 0, 66, 0, 0), (66, .ior, 67, 0, 0), (67, .istore_n 1, 68, 0, 0),
  (68, .iinc 2 1, 71, 0, 1), (71, .goto (-67), 74, 4, 0), (74, .iload_n 1, 75, 0, 0), (75, .ireturn, 76, 0, 0)]
abbrev M_X11_idle : MI := (yX11_idle, cX11_idle, 5, (some .int), 11, P_X11_idle)
theorem ok_X11_idle : okP 11 cX11_idle P_X11_idle = true := by decide +kernel
def P_X11_all : List PE := [(0, .iload_n 1, 1, 0, 0), (1, .iconst 0, 2, 0, 0), (2, .iconst 4, 3, 0, 4), (3, .invokestatic 7, 6, 0, 0), (6, .ifCond .ne 7, 9, 13, 0), (9, .ldc_w 271, 12, 999, (-100000)), (12, .ireturn, 13, 0, 0), (13, .aload_n 0, 14, 0, 0),
  (14, .invokevirtual 252, 17, 0, 0), (17, .iload_n 1, 18, 0, 0), (18, .tableswitch 50 0 3 #[30, 35, 40, 45], 48, 0, 0), (48, .aload_n 0, 49, 0, 0), (49, .invokevirtual 272, 52, 0, 0), (52, .ireturn, 53, 0, 0), (53, .aload_n 0, 54, 0, 0), (54, .invokevirtual 255, 57, 0, 0),
  (57, .ireturn, 58, 0, 0), (58, .aload_n 0, 59, 0, 0), (59, .invokevirtual 275, 62, 0, 0), (62, .ireturn, 63, 0, 0), (63, .aload_n 0, 64, 0, 0), (64, .invokevirtual 278, 67, 0, 0), (67, .ireturn, 68, 0, 0), (68, .iconst 0, 69, 0, 0),
  (69, .istore_n 2, 70, 0, 0), (70, .iconst 0, 71, 0, 0), (71, .istore_n 3, 72, 0, 0), (72, .iload_n 3, 73, 0, 0), (73, .aload_n 0, 74, 0, 0), (74, .getfield 1, 77, 0, 0), (77, .if_icmp .ge 30, 80, 107, 0), (80, .iload_n 2, 81, 0, 0),
  (81, .aload_n 0, 82, 0, 0), (82, .getfield 193, 85, 0, 0), (85, .iload_n 3, 86, 0, 0), (86, .iaload, 87, 0, 0), (87, .bipush (-3), 89, 0, (-3)), (89, .if_icmp .ne 9, 92, 98, 0), (92, .iconst 1, 93, 0, 1), (93, .iload_n 3, 94, 0, 0),
  (94, .ishl, 95, 0, 0), (95, .goto 4, 98, 99, 0), (98, .iconst 0, 99, 0, 0), (99, .ior, 100, 0, 0), (100, .istore_n 2, 101, 0, 0), (101, .iinc 3 1, 104, 0, 1), (104, .goto (-32), 107, 72, 0), (107, .iload_n 2, 108, 0, 0),
  (108, .ireturn, 109, 0, 0)]
abbrev M_X11_all : MI := (yX11_all, cX11_all, 4, (some .int), 11, P_X11_all)
theorem ok_X11_all : okP 11 cX11_all P_X11_all = true := by decide +kernel
def P_X11_layBy : List PE := [(0, .aload_n 0, 1, 0, 0), (1, .aload_n 0, 2, 0, 0), (2, .getfield 49, 5, 0, 0), (5, .putfield 281, 8, 0, 0), (8, .iconst 0, 9, 0, 0), (9, .istore_n 1, 10, 0, 0), (10, .iload_n 1, 11, 0, 0), (11, .bipush 8, 13, 0, 8),
  (13, .if_icmp .ge 21, 16, 34, 0), (16, .aload_n 0, 17, 0, 0), (17, .getfield 202, 20, 0, 0), (20, .iload_n 1, 21, 0, 0), (21, .aload_n 0, 22, 0, 0), (22, .getfield 52, 25, 0, 0), (25, .iload_n 1, 26, 0, 0), (26, .iaload, 27, 0, 0),
  (27, .iastore, 28, 0, 0), (28, .iinc 1 1, 31, 0, 1), (31, .goto (-21), 34, 10, 0), (34, .return_, 35, 0, 0)]
abbrev M_X11_layBy : MI := (yX11_layBy, cX11_layBy, 2, none, 11, P_X11_layBy)
theorem ok_X11_layBy : okP 11 cX11_layBy P_X11_layBy = true := by decide +kernel
def P_X11_layBack : List PE := [(0, .aload_n 0, 1, 0, 0), (1, .aload_n 0, 2, 0, 0), (2, .getfield 281, 5, 0, 0), (5, .putfield 49, 8, 0, 0), (8, .iconst 0, 9, 0, 0), (9, .istore_n 1, 10, 0, 0), (10, .iload_n 1, 11, 0, 0), (11, .bipush 8, 13, 0, 8),
  (13, .if_icmp .ge 21, 16, 34, 0), (16, .aload_n 0, 17, 0, 0), (17, .getfield 52, 20, 0, 0), (20, .iload_n 1, 21, 0, 0), (21, .aload_n 0, 22, 0, 0), (22, .getfield 202, 25, 0, 0), (25, .iload_n 1, 26, 0, 0), (26, .iaload, 27, 0, 0),
  (27, .iastore, 28, 0, 0), (28, .iinc 1 1, 31, 0, 1), (31, .goto (-21), 34, 10, 0), (34, .return_, 35, 0, 0)]
abbrev M_X11_layBack : MI := (yX11_layBack, cX11_layBack, 2, none, 11, P_X11_layBack)
theorem ok_X11_layBack : okP 11 cX11_layBack P_X11_layBack = true := by decide +kernel
def P_X11_leave : List PE := [(0, .iload_n 1, 1, 0, 0), (1, .iconst 0, 2, 0, 0), (2, .iconst 1, 3, 0, 1), (3, .invokestatic 7, 6, 0, 0), (6, .ifCond .ne 7, 9, 13, 0), (9, .ldc_w 271, 12, 999, (-100000)), (12, .ireturn, 13, 0, 0), (13, .iconst (-1), 14, 0, (-1)),
  (14, .istore_n 2, 15, 0, 0), (15, .aload_n 0, 16, 0, 0), (16, .invokevirtual 272, 19, 0, 0), (19, .istore_n 3, 20, 0, 0), (20, .aload_n 0, 21, 0, 0), (21, .invokevirtual 284, 24, 0, 0), (24, .iconst 0, 25, 0, 0), (25, .istore 4, 27, 0, 0),
  (27, .iload 4, 29, 0, 0), (29, .aload_n 0, 30, 0, 0), (30, .getfield 281, 33, 0, 0), (33, .if_icmp .ge 91, 36, 124, 0), (36, .aload_n 0, 37, 0, 0), (37, .iconst 0, 38, 0, 0), (38, .putfield 49, 41, 0, 0), (41, .iconst 0, 42, 0, 0),
  (42, .istore 5, 44, 0, 0), (44, .iload 5, 46, 0, 0), (46, .aload_n 0, 47, 0, 0), (47, .getfield 281, 50, 0, 0), (50, .if_icmp .ge 42, 53, 92, 0), (53, .iload 5, 55, 0, 0), (55, .iload 4, 57, 0, 0), (57, .if_icmp .eq 29, 60, 86, 0),
  (60, .aload_n 0, 61, 0, 0), (61, .getfield 52, 64, 0, 0), (64, .aload_n 0, 65, 0, 0), (65, .getfield 49, 68, 0, 0), (68, .aload_n 0, 69, 0, 0), (69, .getfield 202, 72, 0, 0), (72, .iload 5, 74, 0, 0), (74, .iaload, 75, 0, 0),
  (75, .iastore, 76, 0, 0), (76, .aload_n 0, 77, 0, 0), (77, .dup, 78, 0, 0), (78, .getfield 49, 81, 0, 0), (81, .iconst 1, 82, 0, 1), (82, .iadd, 83, 0, 0), (83, .putfield 49, 86, 0, 0), (86, .iinc 5 1, 89, 0, 1),
  (89, .goto (-45), 92, 44, 0), (92, .aload_n 0, 93, 0, 0), (93, .invokevirtual 272, 96, 0, 0), (96, .istore 5, 98, 0, 0), (98, .iload 5, 100, 0, 0), (100, .iload_n 3, 101, 0, 0), (101, .if_icmp .le 8, 104, 109, 0), (104, .iload 4, 106, 0, 0),
  (106, .goto 4, 109, 110, 0), (109, .iload_n 2, 110, 0, 0), (110, .istore_n 2, 111, 0, 0), (111, .iload_n 3, 112, 0, 0), (112, .iload 5, 114, 0, 0), (114, .invokestatic 223, 117, 0, 0), (117, .istore_n 3, 118, 0, 0), (118, .iinc 4 1, 121, 0, 1),
  (121, .goto (-94), 124, 27, 0), (124, .aload_n 0, 125, 0, 0), (125, .invokevirtual 287, 128, 0, 0), (128, .iload_n 1, 129, 0, 0), (129, .ifCond .ne 7, 132, 136, 0), (132, .iload_n 2, 133, 0, 0), (133, .goto 4, 136, 137, 0), (136, .iload_n 3, 137, 0, 0),
  (137, .ireturn, 138, 0, 0)]
abbrev M_X11_leave : MI := (yX11_leave, cX11_leave, 6, (some .int), 11, P_X11_leave)
theorem ok_X11_leave : okP 11 cX11_leave P_X11_leave = true := by decide +kernel
def P_X11_swap : List PE := [(0, .aload_n 0, 1, 0, 0), (1, .getfield 52, 4, 0, 0), (4, .iload_n 1, 5, 0, 0), (5, .iaload, 6, 0, 0), (6, .istore_n 3, 7, 0, 0), (7, .aload_n 0, 8, 0, 0), (8, .getfield 52, 11, 0, 0), (11, .iload_n 1, 12, 0, 0),
  (12, .aload_n 0, 13, 0, 0), (13, .getfield 52, 16, 0, 0), (16, .iload_n 2, 17, 0, 0), (17, .iaload, 18, 0, 0), (18, .iastore, 19, 0, 0), (19, .aload_n 0, 20, 0, 0), (20, .getfield 52, 23, 0, 0), (23, .iload_n 2, 24, 0, 0),
  (24, .iload_n 3, 25, 0, 0), (25, .iastore, 26, 0, 0), (26, .return_, 27, 0, 0)]
abbrev M_X11_swap : MI := (yX11_swap, cX11_swap, 4, none, 11, P_X11_swap)
theorem ok_X11_swap : okP 11 cX11_swap P_X11_swap = true := by decide +kernel
def P_X11_next_ : List PE := [(0, .iload_n 1, 1, 0, 0), (1, .iconst 2, 2, 0, 2), (2, .isub, 3, 0, 0), (3, .istore_n 2, 4, 0, 0), (4, .iload_n 2, 5, 0, 0), (5, .ifCond .lt 26, 8, 31, 0), (8, .aload_n 0, 9, 0, 0), (9, .getfield 52, 12, 0, 0),
  (12, .iload_n 2, 13, 0, 0), (13, .iaload, 14, 0, 0), (14, .aload_n 0, 15, 0, 0), (15, .getfield 52, 18, 0, 0), (18, .iload_n 2, 19, 0, 0), (19, .iconst 1, 20, 0, 1), (20, .iadd, 21, 0, 0), (21, .iaload, 22, 0, 0),
  (22, .if_icmp .le 9, 25, 31, 0), (25, .iinc 2 (-1), 28, 0, (-1)), (28, .goto (-24), 31, 4, 0), (31, .iload_n 2, 32, 0, 0), (32, .ifCond .ge 5, 35, 37, 0), (35, .iconst 0, 36, 0, 0), (36, .ireturn, 37, 0, 0), (37, .iload_n 1, 38, 0, 0),
  (38, .iconst 1, 39, 0, 1), (39, .isub, 40, 0, 0), (40, .istore_n 3, 41, 0, 0), (41, .aload_n 0, 42, 0, 0), (42, .getfield 52, 45, 0, 0), (45, .iload_n 3, 46, 0, 0), (46, .iaload, 47, 0, 0), (47, .aload_n 0, 48, 0, 0),
  (48, .getfield 52, 51, 0, 0), (51, .iload_n 2, 52, 0, 0), (52, .iaload, 53, 0, 0), (53, .if_icmp .ge 9, 56, 62, 0), (56, .iinc 3 (-1), 59, 0, (-1)), (59, .goto (-18), 62, 41, 0), (62, .aload_n 0, 63, 0, 0), (63, .iload_n 2, 64, 0, 0),
  (64, .iload_n 3, 65, 0, 0), (65, .invokevirtual 290, 68, 0, 0), (68, .iload_n 2, 69, 0, 0), (69, .iconst 1, 70, 0, 1), (70, .iadd, 71, 0, 0), (71, .istore 4, 73, 0, 0), (73, .iload_n 1, 74, 0, 0), (74, .iconst 1, 75, 0, 1),
  (75, .isub, 76, 0, 0), (76, .istore 5, 78, 0, 0), (78, .iload 4, 80, 0, 0), (80, .iload 5, 82, 0, 0), (82, .if_icmp .ge 20, 85, 102, 0), (85, .aload_n 0, 86, 0, 0), (86, .iload 4, 88, 0, 0), (88, .iload 5, 90, 0, 0),
  (90, .invokevirtual 290, 93, 0, 0), (93, .iinc 4 1, 96, 0, 1), (96, .iinc 5 (-1), 99, 0, (-1)), (99, .goto (-21), 102, 78, 0), (102, .iconst 1, 103, 0, 1), (103, .ireturn, 104, 0, 0)]
abbrev M_X11_next_ : MI := (yX11_next_, cX11_next_, 6, (some .boolean), 11, P_X11_next_)
theorem ok_X11_next_ : okP 11 cX11_next_ P_X11_next_ = true := by decide +kernel
def P_X11_order : List PE := [(0, .iload_n 1, 1, 0, 0), (1, .iconst 0, 2, 0, 0), (2, .iconst 1, 3, 0, 1), (3, .invokestatic 7, 6, 0, 0), (6, .ifCond .ne 7, 9, 13, 0), (9, .ldc_w 271, 12, 999, (-100000)), (12, .ireturn, 13, 0, 0), (13, .aload_n 0, 14, 0, 0),
  (14, .invokevirtual 284, 17, 0, 0), (17, .aload_n 0, 18, 0, 0), (18, .aload_n 0, 19, 0, 0), (19, .getfield 11, 22, 0, 0), (22, .putfield 49, 25, 0, 0), (25, .iconst 0, 26, 0, 0), (26, .istore_n 2, 27, 0, 0), (27, .iload_n 2, 28, 0, 0),
  (28, .aload_n 0, 29, 0, 0), (29, .getfield 11, 32, 0, 0), (32, .if_icmp .ge 16, 35, 48, 0), (35, .aload_n 0, 36, 0, 0), (36, .getfield 52, 39, 0, 0), (39, .iload_n 2, 40, 0, 0), (40, .iload_n 2, 41, 0, 0), (41, .iastore, 42, 0, 0),
  (42, .iinc 2 1, 45, 0, 1), (45, .goto (-18), 48, 27, 0), (48, .iconst (-1), 49, 0, (-1)), (49, .istore_n 2, 50, 0, 0), (50, .iconst 0, 51, 0, 0), (51, .istore_n 3, 52, 0, 0), (52, .iconst 1, 53, 0, 1), (53, .istore 4, 55, 0, 0),
  (55, .iload 4, 57, 0, 0), (57, .ifCond .eq 71, 60, 128, 0), (60, .aload_n 0, 61, 0, 0), (61, .invokevirtual 272, 64, 0, 0), (64, .istore 5, 66, 0, 0), (66, .iload_n 2, 67, 0, 0), (67, .iconst (-1), 68, 0, (-1)), (68, .if_icmp .eq 9, 71, 77, 0),
  (71, .iload 5, 73, 0, 0), (73, .iload_n 3, 74, 0, 0), (74, .if_icmp .le 41, 77, 115, 0), (77, .iload 5, 79, 0, 0), (79, .istore_n 3, 80, 0, 0), (80, .iconst 0, 81, 0, 0), (81, .istore_n 2, 82, 0, 0), (82, .iconst 0, 83, 0, 0),
  (83, .istore 6, 85, 0, 0), (85, .iload 6, 87, 0, 0), (87, .aload_n 0, 88, 0, 0), (88, .getfield 49, 91, 0, 0), (91, .if_icmp .ge 24, 94, 115, 0), (94, .bipush 10, 96, 0, 10), (96, .iload_n 2, 97, 0, 0), (97, .imul, 98, 0, 0),
  (98, .aload_n 0, 99, 0, 0), (99, .getfield 52, 102, 0, 0), (102, .iload 6, 104, 0, 0), (104, .iaload, 105, 0, 0), (105, .iadd, 106, 0, 0), (106, .iconst 1, 107, 0, 1), (107, .iadd, 108, 0, 0), (108, .istore_n 2, 109, 0, 0),
  (109, .iinc 6 1, 112, 0, 1), (112, .goto (-27), 115, 85, 0), (115, .aload_n 0, 116, 0, 0), (116, .aload_n 0, 117, 0, 0), (117, .getfield 49, 120, 0, 0), (120, .invokevirtual 294, 123, 0, 0), (123, .istore 4, 125, 0, 0), (125, .goto (-70), 128, 55, 0),
  (128, .aload_n 0, 129, 0, 0), (129, .invokevirtual 287, 132, 0, 0), (132, .iload_n 1, 133, 0, 0), (133, .ifCond .ne 7, 136, 140, 0), (136, .iload_n 3, 137, 0, 0), (137, .goto 4, 140, 141, 0), (140, .iload_n 2, 141, 0, 0), (141, .ireturn, 142, 0, 0)]
abbrev M_X11_order : MI := (yX11_order, cX11_order, 7, (some .int), 11, P_X11_order)
theorem ok_X11_order : okP 11 cX11_order P_X11_order = true := by decide +kernel
def P_X11_letter : List PE := [(0, .aload_n 0, 1, 0, 0), (1, .iload_n 1, 2, 0, 0), (2, .invokevirtual 46, 5, 0, 0), (5, .ifCond .eq 12, 8, 17, 0), (8, .iload_n 2, 9, 0, 0), (9, .iconst 0, 10, 0, 0), (10, .iconst 1, 11, 0, 1), (11, .invokestatic 7, 14, 0, 0),
  (14, .ifCond .ne 7, 17, 21, 0), (17, .ldc_w 271, 20, 999, (-100000)), (20, .ireturn, 21, 0, 0), (21, .aload_n 0, 22, 0, 0), (22, .getfield 40, 25, 0, 0), (25, .iload_n 1, 26, 0, 0), (26, .iaload, 27, 0, 0), (27, .istore_n 3, 28, 0, 0),
  (28, .iconst 0, 29, 0, 0), (29, .istore 4, 31, 0, 0), (31, .iconst 0, 32, 0, 0), (32, .istore 5, 34, 0, 0), (34, .iconst 0, 35, 0, 0), (35, .istore 6, 37, 0, 0), (37, .iload 6, 39, 0, 0), (39, .bipush 26, 41, 0, 26),
  (41, .if_icmp .ge 43, 44, 84, 0), (44, .aload_n 0, 45, 0, 0), (45, .getfield 40, 48, 0, 0), (48, .iload_n 1, 49, 0, 0), (49, .iload 6, 51, 0, 0), (51, .iastore, 52, 0, 0), (52, .aload_n 0, 53, 0, 0), (53, .invokevirtual 272, 56, 0, 0),
  (56, .istore 7, 58, 0, 0), (58, .iload 6, 60, 0, 0), (60, .ifCond .eq 10, 63, 70, 0), (63, .iload 7, 65, 0, 0), (65, .iload 5, 67, 0, 0), (67, .if_icmp .le 11, 70, 78, 0), (70, .iload 6, 72, 0, 0), (72, .istore 4, 74, 0, 0),
  (74, .iload 7, 76, 0, 0), (76, .istore 5, 78, 0, 0), (78, .iinc 6 1, 81, 0, 1), (81, .goto (-44), 84, 37, 0), (84, .aload_n 0, 85, 0, 0), (85, .getfield 40, 88, 0, 0), (88, .iload_n 1, 89, 0, 0), (89, .iload_n 3, 90, 0, 0),
  (90, .iastore, 91, 0, 0), (91, .iload_n 2, 92, 0, 0), (92, .ifCond .ne 8, 95, 100, 0), (95, .iload 4, 97, 0, 0), (97, .goto 5, 100, 102, 0), (100, .iload 5, 102, 0, 0), (102, .ireturn, 103, 0, 0)]
abbrev M_X11_letter : MI := (yX11_letter, cX11_letter, 8, (some .int), 11, P_X11_letter)
theorem ok_X11_letter : okP 11 cX11_letter P_X11_letter = true := by decide +kernel
def P_X11_isHeard : List PE := [(0, .aload_n 0, 1, 0, 0), (1, .getfield 226, 4, 0, 0), (4, .aload_n 0, 5, 0, 0), (5, .getfield 22, 8, 0, 0), (8, .iload_n 1, 9, 0, 0), (9, .iaload, 10, 0, 0), (10, .if_icmp .ne 7, 13, 17, 0), (13, .iconst 1, 14, 0, 1),
  (14, .goto 4, 17, 18, 0), (17, .iconst 0, 18, 0, 0), (18, .istore_n 2, 19, 0, 0), (19, .iconst 0, 20, 0, 0), (20, .istore_n 3, 21, 0, 0), (21, .iload_n 3, 22, 0, 0), (22, .aload_n 0, 23, 0, 0), (23, .getfield 226, 26, 0, 0),
  (26, .if_icmp .ge 39, 29, 65, 0), (29, .iload_n 2, 30, 0, 0), (30, .ifCond .eq 35, 33, 65, 0), (33, .aload_n 0, 34, 0, 0), (34, .getfield 196, 37, 0, 0), (37, .iload_n 3, 38, 0, 0), (38, .iaload, 39, 0, 0), (39, .aload_n 0, 40, 0, 0),
  (40, .getfield 25, 43, 0, 0), (43, .bipush 40, 45, 0, 40), (45, .iload_n 1, 46, 0, 0), (46, .imul, 47, 0, 0), (47, .iload_n 3, 48, 0, 0), (48, .iadd, 49, 0, 0), (49, .iaload, 50, 0, 0), (50, .if_icmp .ne 7, 53, 57, 0),
  (53, .iconst 1, 54, 0, 1), (54, .goto 4, 57, 58, 0), (57, .iconst 0, 58, 0, 0), (58, .istore_n 2, 59, 0, 0), (59, .iinc 3 1, 62, 0, 1), (62, .goto (-41), 65, 21, 0), (65, .iload_n 2, 66, 0, 0), (66, .ireturn, 67, 0, 0)]
abbrev M_X11_isHeard : MI := (yX11_isHeard, cX11_isHeard, 4, (some .boolean), 11, P_X11_isHeard)
theorem ok_X11_isHeard : okP 11 cX11_isHeard P_X11_isHeard = true := by decide +kernel
def P_X11_heard : List PE := [(0, .iload_n 1, 1, 0, 0), (1, .invokestatic 14, 4, 0, 0), (4, .ifCond .eq 12, 7, 16, 0), (7, .iload_n 2, 8, 0, 0), (8, .iconst 0, 9, 0, 0), (9, .iconst 2, 10, 0, 2), (10, .invokestatic 7, 13, 0, 0), (13, .ifCond .ne 6, 16, 19, 0),
  (16, .bipush (-2), 18, 0, (-2)), (18, .ireturn, 19, 0, 0), (19, .aload_n 0, 20, 0, 0), (20, .getfield 18, 23, 0, 0), (23, .iload_n 1, 24, 0, 0), (24, .iaload, 25, 0, 0), (25, .ifCond .ge 6, 28, 31, 0), (28, .bipush (-11), 30, 0, (-11)),
  (30, .ireturn, 31, 0, 0), (31, .iconst 0, 32, 0, 0), (32, .istore_n 3, 33, 0, 0), (33, .iconst 0, 34, 0, 0), (34, .istore 4, 36, 0, 0), (36, .iconst 0, 37, 0, 0), (37, .istore 5, 39, 0, 0), (39, .iconst 0, 40, 0, 0),
  (40, .istore 6, 42, 0, 0), (42, .iload 6, 44, 0, 0), (44, .aload_n 0, 45, 0, 0), (45, .getfield 1, 48, 0, 0), (48, .if_icmp .ge 88, 51, 136, 0), (51, .aload_n 0, 52, 0, 0), (52, .iload 6, 54, 0, 0), (54, .invokevirtual 232, 57, 0, 0),
  (57, .aload_n 0, 58, 0, 0), (58, .invokevirtual 235, 61, 0, 0), (61, .iload_n 3, 62, 0, 0), (62, .aload_n 0, 63, 0, 0), (63, .iload_n 1, 64, 0, 0), (64, .invokevirtual 296, 67, 0, 0), (67, .ifCond .eq 10, 70, 77, 0), (70, .iconst 1, 71, 0, 1),
  (71, .iload 6, 73, 0, 0), (73, .ishl, 74, 0, 0), (74, .goto 4, 77, 78, 0), (77, .iconst 0, 78, 0, 0), (78, .ior, 79, 0, 0), (79, .istore_n 3, 80, 0, 0), (80, .iconst 0, 81, 0, 0), (81, .istore 7, 83, 0, 0),
  (83, .iload 7, 85, 0, 0), (85, .aload_n 0, 86, 0, 0), (86, .getfield 11, 89, 0, 0), (89, .if_icmp .ge 41, 92, 130, 0), (92, .aload_n 0, 93, 0, 0), (93, .iload 6, 95, 0, 0), (95, .invokevirtual 232, 98, 0, 0), (98, .aload_n 0, 99, 0, 0),
  (99, .iload 7, 101, 0, 0), (101, .invokevirtual 229, 104, 0, 0), (104, .aload_n 0, 105, 0, 0), (105, .iload_n 1, 106, 0, 0), (106, .invokevirtual 296, 109, 0, 0), (109, .ifCond .eq 15, 112, 124, 0), (112, .iload 4, 114, 0, 0), (114, .iconst 1, 115, 0, 1),
  (115, .iload 7, 117, 0, 0), (117, .ishl, 118, 0, 0), (118, .ior, 119, 0, 0), (119, .istore 4, 121, 0, 0), (121, .iinc 5 1, 124, 0, 1), (124, .iinc 7 1, 127, 0, 1), (127, .goto (-44), 130, 83, 0), (130, .iinc 6 1, 133, 0, 1),
  (133, .goto (-91), 136, 42, 0), (136, .iload_n 2, 137, 0, 0), (137, .ifCond .ne 7, 140, 144, 0), (140, .iload_n 3, 141, 0, 0), (141, .goto 15, 144, 156, 0), (144, .iload_n 2, 145, 0, 0), (145, .iconst 1, 146, 0, 1), (146, .if_icmp .ne 8, 149, 154, 0),
  (149, .iload 4, 151, 0, 0), (151, .goto 5, 154, 156, 0), (154, .iload 5, 156, 0, 0), (156, .ireturn, 157, 0, 0)]
abbrev M_X11_heard : MI := (yX11_heard, cX11_heard, 8, (some .int), 11, P_X11_heard)
theorem ok_X11_heard : okP 11 cX11_heard P_X11_heard = true := by decide +kernel
def P_X11_found : List PE := [(0, .iload_n 1, 1, 0, 0), (1, .invokestatic 14, 4, 0, 0), (4, .ifCond .eq 29, 7, 33, 0), (7, .aload_n 0, 8, 0, 0), (8, .iload_n 2, 9, 0, 0), (9, .invokevirtual 58, 12, 0, 0), (12, .ifCond .eq 21, 15, 33, 0), (15, .aload_n 0, 16, 0, 0),
  (16, .iload_n 3, 17, 0, 0), (17, .invokevirtual 46, 20, 0, 0), (20, .ifCond .eq 13, 23, 33, 0), (23, .iload 4, 25, 0, 0), (25, .iconst 0, 26, 0, 0), (26, .iconst 2, 27, 0, 2), (27, .invokestatic 7, 30, 0, 0), (30, .ifCond .ne 6, 33, 36, 0),
  (33, .bipush (-2), 35, 0, (-2)), (35, .ireturn, 36, 0, 0), (36, .aload_n 0, 37, 0, 0), (37, .getfield 18, 40, 0, 0), (40, .iload_n 1, 41, 0, 0), (41, .iaload, 42, 0, 0), (42, .ifCond .ge 6, 45, 48, 0), (45, .bipush (-11), 47, 0, (-11)),
  (47, .ireturn, 48, 0, 0), (48, .aload_n 0, 49, 0, 0), (49, .getfield 40, 52, 0, 0), (52, .iload_n 3, 53, 0, 0), (53, .iaload, 54, 0, 0), (54, .istore 5, 56, 0, 0), (56, .aload_n 0, 57, 0, 0), (57, .getfield 43, 60, 0, 0),
  (60, .iload_n 3, 61, 0, 0), (61, .iaload, 62, 0, 0), (62, .istore 6, 64, 0, 0), (64, .aload_n 0, 65, 0, 0), (65, .getfield 37, 68, 0, 0), (68, .iload_n 3, 69, 0, 0), (69, .iaload, 70, 0, 0), (70, .istore 7, 72, 0, 0),
  (72, .iconst 0, 73, 0, 0), (73, .istore 8, 75, 0, 0), (75, .iconst 0, 76, 0, 0), (76, .istore 9, 78, 0, 0), (78, .iload 9, 80, 0, 0), (80, .iload 4, 82, 0, 0), (82, .iconst 2, 83, 0, 2), (83, .if_icmp .ne 8, 86, 91, 0),
  (86, .bipush 6, 88, 0, 6), (88, .goto 5, 91, 93, 0), (91, .bipush 26, 93, 0, 26), (93, .if_icmp .ge 95, 96, 188, 0), (96, .aload_n 0, 97, 0, 0), (97, .getfield 40, 100, 0, 0), (100, .iload_n 3, 101, 0, 0), (101, .iload 4, 103, 0, 0),
  (103, .ifCond .ne 8, 106, 111, 0), (106, .iload 9, 108, 0, 0), (108, .goto 5, 111, 113, 0), (111, .iload 5, 113, 0, 0), (113, .iastore, 114, 0, 0), (114, .aload_n 0, 115, 0, 0), (115, .getfield 43, 118, 0, 0), (118, .iload_n 3, 119, 0, 0),
  (119, .iload 4, 121, 0, 0), (121, .iconst 1, 122, 0, 1), (122, .if_icmp .ne 8, 125, 130, 0), (125, .iload 9, 127, 0, 0), (127, .goto 5, 130, 132, 0), (130, .iload 6, 132, 0, 0), (132, .iastore, 133, 0, 0), (133, .aload_n 0, 134, 0, 0),
  (134, .getfield 37, 137, 0, 0), (137, .iload_n 3, 138, 0, 0), (138, .iload 4, 140, 0, 0), (140, .iconst 2, 141, 0, 2), (141, .if_icmp .ne 8, 144, 149, 0), (144, .iload 9, 146, 0, 0), (146, .goto 5, 149, 151, 0), (149, .iload 7, 151, 0, 0),
  (151, .iastore, 152, 0, 0), (152, .aload_n 0, 153, 0, 0), (153, .iload_n 2, 154, 0, 0), (154, .invokevirtual 232, 157, 0, 0), (157, .aload_n 0, 158, 0, 0), (158, .invokevirtual 235, 161, 0, 0), (161, .iload 8, 163, 0, 0), (163, .aload_n 0, 164, 0, 0),
  (164, .iload_n 1, 165, 0, 0), (165, .invokevirtual 296, 168, 0, 0), (168, .ifCond .eq 10, 171, 178, 0), (171, .iconst 1, 172, 0, 1), (172, .iload 9, 174, 0, 0), (174, .ishl, 175, 0, 0), (175, .goto 4, 178, 179, 0), (178, .iconst 0, 179, 0, 0),
  (179, .ior, 180, 0, 0), (180, .istore 8, 182, 0, 0), (182, .iinc 9 1, 185, 0, 1), (185, .goto (-107), 188, 78, 0), (188, .aload_n 0, 189, 0, 0), (189, .getfield 40, 192, 0, 0), (192, .iload_n 3, 193, 0, 0), (193, .iload 5, 195, 0, 0),
  (195, .iastore, 196, 0, 0), (196, .aload_n 0, 197, 0, 0), (197, .getfield 43, 200, 0, 0), (200, .iload_n 3, 201, 0, 0), (201, .iload 6, 203, 0, 0), (203, .iastore, 204, 0, 0), (204, .aload_n 0, 205, 0, 0), (205, .getfield 37, 208, 0, 0),
  (208, .iload_n 3, 209, 0, 0), (209, .iload 7, 211, 0, 0), (211, .iastore, 212, 0, 0), (212, .iload 8, 214, 0, 0), (214, .ireturn, 215, 0, 0)]
abbrev M_X11_found : MI := (yX11_found, cX11_found, 10, (some .int), 11, P_X11_found)
theorem ok_X11_found : okP 11 cX11_found P_X11_found = true := by decide +kernel
def P_X11_alikeTexts : List PE := [(0, .aload_n 0, 1, 0, 0), (1, .getfield 175, 4, 0, 0), (4, .istore_n 1, 5, 0, 0), (5, .aload_n 0, 6, 0, 0), (6, .invokevirtual 272, 9, 0, 0), (9, .istore_n 2, 10, 0, 0), (10, .iconst 0, 11, 0, 0), (11, .istore_n 3, 12, 0, 0),
  (12, .iconst 0, 13, 0, 0), (13, .istore 4, 15, 0, 0), (15, .iload 4, 17, 0, 0), (17, .aload_n 0, 18, 0, 0), (18, .getfield 169, 21, 0, 0), (21, .if_icmp .ge 34, 24, 55, 0), (24, .aload_n 0, 25, 0, 0), (25, .iload 4, 27, 0, 0),
  (27, .putfield 175, 30, 0, 0), (30, .iload_n 3, 31, 0, 0), (31, .aload_n 0, 32, 0, 0), (32, .invokevirtual 272, 35, 0, 0), (35, .iload_n 2, 36, 0, 0), (36, .if_icmp .ne 10, 39, 46, 0), (39, .iconst 1, 40, 0, 1), (40, .iload 4, 42, 0, 0),
  (42, .ishl, 43, 0, 0), (43, .goto 4, 46, 47, 0), (46, .iconst 0, 47, 0, 0), (47, .ior, 48, 0, 0), (48, .istore_n 3, 49, 0, 0), (49, .iinc 4 1, 52, 0, 1), (52, .goto (-37), 55, 15, 0), (55, .aload_n 0, 56, 0, 0),
  (56, .iload_n 1, 57, 0, 0), (57, .putfield 175, 60, 0, 0), (60, .iload_n 3, 61, 0, 0), (61, .ireturn, 62, 0, 0)]
abbrev M_X11_alikeTexts : MI := (yX11_alikeTexts, cX11_alikeTexts, 5, (some .int), 11, P_X11_alikeTexts)
theorem ok_X11_alikeTexts : okP 11 cX11_alikeTexts P_X11_alikeTexts = true := by decide +kernel
def P_X11_film : List PE := [(0, .iload_n 1, 1, 0, 0), (1, .invokestatic 14, 4, 0, 0), (4, .ifCond .eq 11, 7, 15, 0), (7, .aload_n 0, 8, 0, 0), (8, .iload_n 2, 9, 0, 0), (9, .invokevirtual 58, 12, 0, 0), (12, .ifCond .ne 6, 15, 18, 0), (15, .bipush (-2), 17, 0, (-2)),
  (17, .ireturn, 18, 0, 0), (18, .aload_n 0, 19, 0, 0), (19, .iload_n 2, 20, 0, 0), (20, .invokevirtual 238, 23, 0, 0), (23, .aload_n 0, 24, 0, 0), (24, .getfield 193, 27, 0, 0), (27, .iload_n 2, 28, 0, 0), (28, .iaload, 29, 0, 0),
  (29, .bipush (-3), 31, 0, (-3)), (31, .if_icmp .ne 6, 34, 37, 0), (34, .bipush (-3), 36, 0, (-3)), (36, .ireturn, 37, 0, 0), (37, .aload_n 0, 38, 0, 0), (38, .iload_n 1, 39, 0, 0), (39, .iconst 0, 40, 0, 0), (40, .aload_n 0, 41, 0, 0),
  (41, .getfield 193, 44, 0, 0), (44, .iload_n 2, 45, 0, 0), (45, .iaload, 46, 0, 0), (46, .invokevirtual 299, 49, 0, 0), (49, .pop, 50, 0, 0), (50, .iconst 0, 51, 0, 0), (51, .istore_n 3, 52, 0, 0), (52, .iload_n 3, 53, 0, 0),
  (53, .aload_n 0, 54, 0, 0), (54, .getfield 193, 57, 0, 0), (57, .iload_n 2, 58, 0, 0), (58, .iaload, 59, 0, 0), (59, .if_icmp .ge 31, 62, 90, 0), (62, .aload_n 0, 63, 0, 0), (63, .getfield 25, 66, 0, 0), (66, .bipush 40, 68, 0, 40),
  (68, .iload_n 1, 69, 0, 0), (69, .imul, 70, 0, 0), (70, .iload_n 3, 71, 0, 0), (71, .iadd, 72, 0, 0), (72, .aload_n 0, 73, 0, 0), (73, .getfield 190, 76, 0, 0), (76, .bipush 40, 78, 0, 40), (78, .iload_n 2, 79, 0, 0),
  (79, .imul, 80, 0, 0), (80, .iload_n 3, 81, 0, 0), (81, .iadd, 82, 0, 0), (82, .iaload, 83, 0, 0), (83, .iastore, 84, 0, 0), (84, .iinc 3 1, 87, 0, 1), (87, .goto (-35), 90, 52, 0), (90, .aload_n 0, 91, 0, 0),
  (91, .getfield 193, 94, 0, 0), (94, .iload_n 2, 95, 0, 0), (95, .iaload, 96, 0, 0), (96, .ireturn, 97, 0, 0)]
abbrev M_X11_film : MI := (yX11_film, cX11_film, 4, (some .int), 11, P_X11_film)
theorem ok_X11_film : okP 11 cX11_film P_X11_film = true := by decide +kernel
def P_X11_drawRow : List PE := [(0, .iload_n 1, 1, 0, 0), (1, .ldc_w 302, 4, 999, 1103515245), (4, .imul, 5, 0, 0), (5, .sipush 12345, 8, 0, 12345), (8, .iadd, 9, 0, 0), (9, .istore_n 2, 10, 0, 0), (10, .iload_n 2, 11, 0, 0), (11, .bipush 9, 13, 0, 9),
  (13, .iushr, 14, 0, 0), (14, .iconst 4, 15, 0, 4), (15, .irem, 16, 0, 0), (16, .iconst 1, 17, 0, 1), (17, .iadd, 18, 0, 0), (18, .istore_n 3, 19, 0, 0), (19, .aload_n 0, 20, 0, 0), (20, .iconst 0, 21, 0, 0),
  (21, .putfield 49, 24, 0, 0), (24, .iconst 0, 25, 0, 0), (25, .istore 4, 27, 0, 0), (27, .iload 4, 29, 0, 0), (29, .iload_n 3, 30, 0, 0), (30, .if_icmp .ge 52, 33, 82, 0), (33, .aload_n 0, 34, 0, 0), (34, .getfield 11, 37, 0, 0),
  (37, .ifCond .le 45, 40, 82, 0), (40, .iload_n 2, 41, 0, 0), (41, .ldc_w 302, 44, 999, 1103515245), (44, .imul, 45, 0, 0), (45, .sipush 12345, 48, 0, 12345), (48, .iadd, 49, 0, 0), (49, .istore_n 2, 50, 0, 0), (50, .aload_n 0, 51, 0, 0),
  (51, .getfield 52, 54, 0, 0), (54, .iload 4, 56, 0, 0), (56, .iload_n 2, 57, 0, 0), (57, .bipush 9, 59, 0, 9), (59, .iushr, 60, 0, 0), (60, .aload_n 0, 61, 0, 0), (61, .getfield 11, 64, 0, 0), (64, .irem, 65, 0, 0),
  (65, .iastore, 66, 0, 0), (66, .aload_n 0, 67, 0, 0), (67, .dup, 68, 0, 0), (68, .getfield 49, 71, 0, 0), (71, .iconst 1, 72, 0, 1), (72, .iadd, 73, 0, 0), (73, .putfield 49, 76, 0, 0), (76, .iinc 4 1, 79, 0, 1),
  (79, .goto (-52), 82, 27, 0), (82, .return_, 83, 0, 0)]
abbrev M_X11_drawRow : MI := (yX11_drawRow, cX11_drawRow, 5, none, 11, P_X11_drawRow)
theorem ok_X11_drawRow : okP 11 cX11_drawRow P_X11_drawRow = true := by decide +kernel
def P_X11_drawn : List PE := [(0, .aload_n 0, 1, 0, 0), (1, .invokevirtual 284, 4, 0, 0), (4, .aload_n 0, 5, 0, 0), (5, .iload_n 1, 6, 0, 0), (6, .invokevirtual 303, 9, 0, 0), (9, .aload_n 0, 10, 0, 0), (10, .invokevirtual 272, 13, 0, 0), (13, .istore_n 2, 14, 0, 0),
  (14, .aload_n 0, 15, 0, 0), (15, .invokevirtual 287, 18, 0, 0), (18, .iload_n 2, 19, 0, 0), (19, .ireturn, 20, 0, 0)]
abbrev M_X11_drawn : MI := (yX11_drawn, cX11_drawn, 3, (some .int), 11, P_X11_drawn)
theorem ok_X11_drawn : okP 11 cX11_drawn P_X11_drawn = true := by decide +kernel
def P_X11_divisor : List PE := [(0, .lload_n 0, 1, 0, 0), (1, .lstore 4, 3, 0, 0), (3, .lload_n 2, 4, 0, 0), (4, .lstore 6, 6, 0, 0), (6, .lload 6, 8, 0, 0), (8, .lconst 0, 9, 0, 0), (9, .lcmp, 10, 0, 0), (10, .ifCond .eq 21, 13, 31, 0),
  (13, .lload 4, 15, 0, 0), (15, .lload 6, 17, 0, 0), (17, .lrem, 18, 0, 0), (18, .lstore 8, 20, 0, 0), (20, .lload 6, 22, 0, 0), (22, .lstore 4, 24, 0, 0), (24, .lload 8, 26, 0, 0), (26, .lstore 6, 28, 0, 0),
  (28, .goto (-22), 31, 6, 0), (31, .lload 4, 33, 0, 0), (33, .lreturn, 34, 0, 0)]
abbrev M_X11_divisor : MI := (yX11_divisor, cX11_divisor, 10, (some .long), 11, P_X11_divisor)
theorem ok_X11_divisor : okP 11 cX11_divisor P_X11_divisor = true := by decide +kernel
def P_X11_chance : List PE := [(0, .iload_n 2, 1, 0, 0), (1, .iconst 1, 2, 0, 1), (2, .bipush 20, 4, 0, 20), (4, .invokestatic 7, 7, 0, 0), (7, .ifCond .eq 12, 10, 19, 0), (10, .iload_n 3, 11, 0, 0), (11, .iconst 0, 12, 0, 0), (12, .iconst 1, 13, 0, 1),
  (13, .invokestatic 7, 16, 0, 0), (16, .ifCond .ne 7, 19, 23, 0), (19, .ldc2_w 306, 22, 0, 0), (22, .lreturn, 23, 0, 0), (23, .aload_n 0, 24, 0, 0), (24, .invokevirtual 284, 27, 0, 0), (27, .lconst 0, 28, 0, 0), (28, .lstore 4, 30, 0, 0),
  (30, .iconst 0, 31, 0, 0), (31, .istore 6, 33, 0, 0), (33, .iload 6, 35, 0, 0), (35, .iload_n 2, 36, 0, 0), (36, .if_icmp .ge 38, 39, 74, 0), (39, .aload_n 0, 40, 0, 0), (40, .iload_n 1, 41, 0, 0), (41, .iload 6, 43, 0, 0),
  (43, .iadd, 44, 0, 0), (44, .invokevirtual 303, 47, 0, 0), (47, .aload_n 0, 48, 0, 0), (48, .invokevirtual 252, 51, 0, 0), (51, .lload 4, 53, 0, 0), (53, .aload_n 0, 54, 0, 0), (54, .invokevirtual 255, 57, 0, 0), (57, .ifCond .ne 7, 60, 64, 0),
  (60, .lconst 1, 61, 0, 0), (61, .goto 4, 64, 65, 0), (64, .lconst 0, 65, 0, 0), (65, .ladd, 66, 0, 0), (66, .lstore 4, 68, 0, 0), (68, .iinc 6 1, 71, 0, 1), (71, .goto (-38), 74, 33, 0), (74, .aload_n 0, 75, 0, 0),
  (75, .invokevirtual 287, 78, 0, 0), (78, .lload 4, 80, 0, 0), (80, .iload_n 2, 81, 0, 0), (81, .i2l, 82, 0, 0), (82, .invokestatic 308, 85, 0, 0), (85, .lstore 6, 87, 0, 0), (87, .iload_n 3, 88, 0, 0), (88, .ifCond .ne 11, 91, 99, 0),
  (91, .lload 4, 93, 0, 0), (93, .lload 6, 95, 0, 0), (95, .ldiv, 96, 0, 0), (96, .goto 8, 99, 104, 0), (99, .iload_n 2, 100, 0, 0), (100, .i2l, 101, 0, 0), (101, .lload 6, 103, 0, 0), (103, .ldiv, 104, 0, 0),
  (104, .lreturn, 105, 0, 0)]
abbrev M_X11_chance : MI := (yX11_chance, cX11_chance, 8, (some .long), 11, P_X11_chance)
theorem ok_X11_chance : okP 11 cX11_chance P_X11_chance = true := by decide +kernel
def P_X11_move : List PE := [(0, .iconst 0, 1, 0, 0), (1, .istore 5, 3, 0, 0), (3, .iload 5, 5, 0, 0), (5, .iload 4, 7, 0, 0), (7, .if_icmp .ge 21, 10, 28, 0), (10, .aload_n 2, 11, 0, 0), (11, .iload_n 3, 12, 0, 0), (12, .iload 5, 14, 0, 0),
  (14, .iadd, 15, 0, 0), (15, .aload_n 0, 16, 0, 0), (16, .iload_n 1, 17, 0, 0), (17, .iload 5, 19, 0, 0), (19, .iadd, 20, 0, 0), (20, .iaload, 21, 0, 0), (21, .iastore, 22, 0, 0), (22, .iinc 5 1, 25, 0, 1),
  (25, .goto (-22), 28, 3, 0), (28, .return_, 29, 0, 0)]
abbrev M_X11_move : MI := (yX11_move, cX11_move, 6, none, 11, P_X11_move)
theorem ok_X11_move : okP 11 cX11_move P_X11_move = true := by decide +kernel
def P_X11_image : List PE := [(0, .aload_n 0, 1, 0, 0), (1, .iconst 1, 2, 0, 1), (2, .putfield 312, 5, 0, 0), (5, .aload_n 0, 6, 0, 0), (6, .getfield 205, 9, 0, 0), (9, .iconst 0, 10, 0, 0), (10, .aload_n 0, 11, 0, 0), (11, .getfield 55, 14, 0, 0),
  (14, .iastore, 15, 0, 0), (15, .aload_n 0, 16, 0, 0), (16, .getfield 205, 19, 0, 0), (19, .iconst 1, 20, 0, 1), (20, .aload_n 0, 21, 0, 0), (21, .getfield 1, 24, 0, 0), (24, .iastore, 25, 0, 0), (25, .aload_n 0, 26, 0, 0),
  (26, .getfield 205, 29, 0, 0), (29, .iconst 2, 30, 0, 2), (30, .aload_n 0, 31, 0, 0), (31, .getfield 11, 34, 0, 0), (34, .iastore, 35, 0, 0), (35, .aload_n 0, 36, 0, 0), (36, .getfield 205, 39, 0, 0), (39, .iconst 3, 40, 0, 3),
  (40, .aload_n 0, 41, 0, 0), (41, .getfield 49, 44, 0, 0), (44, .iastore, 45, 0, 0), (45, .aload_n 0, 46, 0, 0), (46, .getfield 205, 49, 0, 0), (49, .iconst 4, 50, 0, 4), (50, .aload_n 0, 51, 0, 0), (51, .getfield 175, 54, 0, 0),
  (54, .iastore, 55, 0, 0), (55, .aload_n 0, 56, 0, 0), (56, .getfield 28, 59, 0, 0), (59, .iconst 0, 60, 0, 0), (60, .aload_n 0, 61, 0, 0), (61, .getfield 205, 64, 0, 0), (64, .bipush 10, 66, 0, 10), (66, .bipush 80, 68, 0, 80),
  (68, .invokestatic 316, 71, 0, 0), (71, .aload_n 0, 72, 0, 0), (72, .getfield 31, 75, 0, 0), (75, .iconst 0, 76, 0, 0), (76, .aload_n 0, 77, 0, 0), (77, .getfield 205, 80, 0, 0), (80, .bipush 90, 82, 0, 90), (82, .bipush 8, 84, 0, 8),
  (84, .invokestatic 316, 87, 0, 0), (87, .aload_n 0, 88, 0, 0), (88, .getfield 34, 91, 0, 0), (91, .iconst 0, 92, 0, 0), (92, .aload_n 0, 93, 0, 0), (93, .getfield 205, 96, 0, 0), (96, .bipush 98, 98, 0, 98), (98, .bipush 8, 100, 0, 8),
  (100, .invokestatic 316, 103, 0, 0), (103, .aload_n 0, 104, 0, 0), (104, .getfield 40, 107, 0, 0), (107, .iconst 0, 108, 0, 0), (108, .aload_n 0, 109, 0, 0), (109, .getfield 205, 112, 0, 0), (112, .bipush 106, 114, 0, 106), (114, .bipush 6, 116, 0, 6),
  (116, .invokestatic 316, 119, 0, 0), (119, .aload_n 0, 120, 0, 0), (120, .getfield 43, 123, 0, 0), (123, .iconst 0, 124, 0, 0), (124, .aload_n 0, 125, 0, 0), (125, .getfield 205, 128, 0, 0), (128, .bipush 112, 130, 0, 112), (130, .bipush 6, 132, 0, 6),
  (132, .invokestatic 316, 135, 0, 0), (135, .aload_n 0, 136, 0, 0), (136, .getfield 52, 139, 0, 0), (139, .iconst 0, 140, 0, 0), (140, .aload_n 0, 141, 0, 0), (141, .getfield 205, 144, 0, 0), (144, .bipush 118, 146, 0, 118), (146, .bipush 8, 148, 0, 8),
  (148, .invokestatic 316, 151, 0, 0), (151, .aload_n 0, 152, 0, 0), (152, .getfield 1, 155, 0, 0), (155, .ireturn, 156, 0, 0)]
abbrev M_X11_image : MI := (yX11_image, cX11_image, 1, (some .int), 11, P_X11_image)
theorem ok_X11_image : okP 11 cX11_image P_X11_image = true := by decide +kernel
def P_X11_back : List PE := [(0, .aload_n 0, 1, 0, 0), (1, .getfield 312, 4, 0, 0), (4, .ifCond .ne 6, 7, 10, 0), (7, .bipush (-3), 9, 0, (-3)), (9, .ireturn, 10, 0, 0), (10, .aload_n 0, 11, 0, 0), (11, .aload_n 0, 12, 0, 0), (12, .getfield 205, 15, 0, 0),
  (15, .iconst 0, 16, 0, 0), (16, .iaload, 17, 0, 0), (17, .putfield 55, 20, 0, 0), (20, .aload_n 0, 21, 0, 0), (21, .aload_n 0, 22, 0, 0), (22, .getfield 205, 25, 0, 0), (25, .iconst 1, 26, 0, 1), (26, .iaload, 27, 0, 0),
  (27, .putfield 1, 30, 0, 0), (30, .aload_n 0, 31, 0, 0), (31, .aload_n 0, 32, 0, 0), (32, .getfield 205, 35, 0, 0), (35, .iconst 2, 36, 0, 2), (36, .iaload, 37, 0, 0), (37, .putfield 11, 40, 0, 0), (40, .aload_n 0, 41, 0, 0),
  (41, .aload_n 0, 42, 0, 0), (42, .getfield 205, 45, 0, 0), (45, .iconst 3, 46, 0, 3), (46, .iaload, 47, 0, 0), (47, .putfield 49, 50, 0, 0), (50, .aload_n 0, 51, 0, 0), (51, .aload_n 0, 52, 0, 0), (52, .getfield 205, 55, 0, 0),
  (55, .iconst 4, 56, 0, 4), (56, .iaload, 57, 0, 0), (57, .putfield 175, 60, 0, 0), (60, .aload_n 0, 61, 0, 0), (61, .getfield 205, 64, 0, 0), (64, .bipush 10, 66, 0, 10), (66, .aload_n 0, 67, 0, 0), (67, .getfield 28, 70, 0, 0),
  (70, .iconst 0, 71, 0, 0), (71, .bipush 80, 73, 0, 80), (73, .invokestatic 316, 76, 0, 0), (76, .aload_n 0, 77, 0, 0), (77, .getfield 205, 80, 0, 0), (80, .bipush 90, 82, 0, 90), (82, .aload_n 0, 83, 0, 0), (83, .getfield 31, 86, 0, 0),
  (86, .iconst 0, 87, 0, 0), (87, .bipush 8, 89, 0, 8), (89, .invokestatic 316, 92, 0, 0), (92, .aload_n 0, 93, 0, 0), (93, .getfield 205, 96, 0, 0), (96, .bipush 98, 98, 0, 98), (98, .aload_n 0, 99, 0, 0), (99, .getfield 34, 102, 0, 0),
  (102, .iconst 0, 103, 0, 0), (103, .bipush 8, 105, 0, 8), (105, .invokestatic 316, 108, 0, 0), (108, .aload_n 0, 109, 0, 0), (109, .getfield 205, 112, 0, 0), (112, .bipush 106, 114, 0, 106), (114, .aload_n 0, 115, 0, 0), (115, .getfield 40, 118, 0, 0),
  (118, .iconst 0, 119, 0, 0), (119, .bipush 6, 121, 0, 6), (121, .invokestatic 316, 124, 0, 0), (124, .aload_n 0, 125, 0, 0), (125, .getfield 205, 128, 0, 0), (128, .bipush 112, 130, 0, 112), (130, .aload_n 0, 131, 0, 0), (131, .getfield 43, 134, 0, 0),
  (134, .iconst 0, 135, 0, 0), (135, .bipush 6, 137, 0, 6), (137, .invokestatic 316, 140, 0, 0), (140, .aload_n 0, 141, 0, 0), (141, .getfield 205, 144, 0, 0), (144, .bipush 118, 146, 0, 118), (146, .aload_n 0, 147, 0, 0), (147, .getfield 52, 150, 0, 0),
  (150, .iconst 0, 151, 0, 0), (151, .bipush 8, 153, 0, 8), (153, .invokestatic 316, 156, 0, 0), (156, .aload_n 0, 157, 0, 0), (157, .getfield 1, 160, 0, 0), (160, .ireturn, 161, 0, 0)]
abbrev M_X11_back : MI := (yX11_back, cX11_back, 1, (some .int), 11, P_X11_back)
theorem ok_X11_back : okP 11 cX11_back P_X11_back = true := by decide +kernel
def P_X11_count : List PE := [(0, .iload_n 1, 1, 0, 0), (1, .tableswitch 69 0 5 #[39, 44, 49, 54, 59, 64], 40, 0, 0), (40, .aload_n 0, 41, 0, 0), (41, .getfield 1, 44, 0, 0), (44, .ireturn, 45, 0, 0), (45, .aload_n 0, 46, 0, 0), (46, .getfield 11, 49, 0, 0), (49, .ireturn, 50, 0, 0),
  (50, .aload_n 0, 51, 0, 0), (51, .getfield 49, 54, 0, 0), (54, .ireturn, 55, 0, 0), (55, .aload_n 0, 56, 0, 0), (56, .getfield 169, 59, 0, 0), (59, .ireturn, 60, 0, 0), (60, .aload_n 0, 61, 0, 0), (61, .getfield 66, 64, 0, 0),
  (64, .ireturn, 65, 0, 0), (65, .aload_n 0, 66, 0, 0), (66, .getfield 175, 69, 0, 0), (69, .ireturn, 70, 0, 0), (70, .bipush (-2), 72, 0, (-2)), (72, .ireturn, 73, 0, 0)]
abbrev M_X11_count : MI := (yX11_count, cX11_count, 2, (some .int), 11, P_X11_count)
theorem ok_X11_count : okP 11 cX11_count P_X11_count = true := by decide +kernel
def P_X11_isSheet : List PE := [(0, .iload_n 0, 1, 0, 0), (1, .iconst 0, 2, 0, 0), (2, .iconst 3, 3, 0, 3), (3, .invokestatic 7, 6, 0, 0), (6, .ireturn, 7, 0, 0)]
abbrev M_X11_isSheet : MI := (yX11_isSheet, cX11_isSheet, 1, (some .boolean), 11, P_X11_isSheet)
theorem ok_X11_isSheet : okP 11 cX11_isSheet P_X11_isSheet = true := by decide +kernel
def P_X11_sheet : List PE := [(0, .iload_n 1, 1, 0, 0), (1, .invokestatic 14, 4, 0, 0), (4, .ifCond .eq 22, 7, 26, 0), (7, .iload_n 2, 8, 0, 0), (8, .iconst (-1), 9, 0, (-1)), (9, .iconst 2, 10, 0, 2), (10, .invokestatic 7, 13, 0, 0), (13, .ifCond .eq 13, 16, 26, 0),
  (16, .iload_n 2, 17, 0, 0), (17, .ifCond .lt 12, 20, 29, 0), (20, .iload_n 3, 21, 0, 0), (21, .bipush 40, 23, 0, 40), (23, .if_icmp .le 6, 26, 29, 0), (26, .bipush (-2), 28, 0, (-2)), (28, .ireturn, 29, 0, 0), (29, .iload_n 2, 30, 0, 0),
  (30, .ifCond .lt 10, 33, 40, 0), (33, .iload_n 3, 34, 0, 0), (34, .ifCond .ge 6, 37, 40, 0), (37, .bipush (-14), 39, 0, (-14)), (39, .ireturn, 40, 0, 0), (40, .aload_n 0, 41, 0, 0), (41, .getfield 18, 44, 0, 0), (44, .iload_n 1, 45, 0, 0),
  (45, .iload_n 2, 46, 0, 0), (46, .iastore, 47, 0, 0), (47, .aload_n 0, 48, 0, 0), (48, .getfield 22, 51, 0, 0), (51, .iload_n 1, 52, 0, 0), (52, .iload_n 2, 53, 0, 0), (53, .ifCond .ge 7, 56, 60, 0), (56, .iconst 0, 57, 0, 0),
  (57, .goto 4, 60, 61, 0), (60, .iload_n 3, 61, 0, 0), (61, .iastore, 62, 0, 0), (62, .iconst 0, 63, 0, 0), (63, .istore 4, 65, 0, 0), (65, .iload 4, 67, 0, 0), (67, .bipush 40, 69, 0, 40), (69, .if_icmp .ge 22, 72, 91, 0),
  (72, .aload_n 0, 73, 0, 0), (73, .getfield 25, 76, 0, 0), (76, .bipush 40, 78, 0, 40), (78, .iload_n 1, 79, 0, 0), (79, .imul, 80, 0, 0), (80, .iload 4, 82, 0, 0), (82, .iadd, 83, 0, 0), (83, .iconst 0, 84, 0, 0),
  (84, .iastore, 85, 0, 0), (85, .iinc 4 1, 88, 0, 1), (88, .goto (-23), 91, 65, 0), (91, .iconst 1, 92, 0, 1), (92, .ireturn, 93, 0, 0)]
abbrev M_X11_sheet : MI := (yX11_sheet, cX11_sheet, 5, (some .int), 11, P_X11_sheet)
theorem ok_X11_sheet : okP 11 cX11_sheet P_X11_sheet = true := by decide +kernel
def P_X11_cell : List PE := [(0, .iload_n 1, 1, 0, 0), (1, .invokestatic 14, 4, 0, 0), (4, .ifCond .ne 6, 7, 10, 0), (7, .bipush (-2), 9, 0, (-2)), (9, .ireturn, 10, 0, 0), (10, .aload_n 0, 11, 0, 0), (11, .getfield 18, 14, 0, 0), (14, .iload_n 1, 15, 0, 0),
  (15, .iaload, 16, 0, 0), (16, .ifCond .ge 6, 19, 22, 0), (19, .bipush (-11), 21, 0, (-11)), (21, .ireturn, 22, 0, 0), (22, .iload_n 2, 23, 0, 0), (23, .iconst 0, 24, 0, 0), (24, .aload_n 0, 25, 0, 0), (25, .getfield 22, 28, 0, 0),
  (28, .iload_n 1, 29, 0, 0), (29, .iaload, 30, 0, 0), (30, .iconst 1, 31, 0, 1), (31, .isub, 32, 0, 0), (32, .invokestatic 7, 35, 0, 0), (35, .ifCond .ne 6, 38, 41, 0), (38, .bipush (-12), 40, 0, (-12)), (40, .ireturn, 41, 0, 0),
  (41, .aload_n 0, 42, 0, 0), (42, .getfield 25, 45, 0, 0), (45, .bipush 40, 47, 0, 40), (47, .iload_n 1, 48, 0, 0), (48, .imul, 49, 0, 0), (49, .iload_n 2, 50, 0, 0), (50, .iadd, 51, 0, 0), (51, .aload_n 0, 52, 0, 0),
  (52, .getfield 18, 55, 0, 0), (55, .iload_n 1, 56, 0, 0), (56, .iaload, 57, 0, 0), (57, .ifCond .ne 8, 60, 65, 0), (60, .iload_n 3, 61, 0, 0), (61, .i2b, 62, 0, 0), (62, .goto 19, 65, 81, 0), (65, .aload_n 0, 66, 0, 0),
  (66, .getfield 18, 69, 0, 0), (69, .iload_n 1, 70, 0, 0), (70, .iaload, 71, 0, 0), (71, .iconst 1, 72, 0, 1), (72, .if_icmp .ne 8, 75, 80, 0), (75, .iload_n 3, 76, 0, 0), (76, .i2s, 77, 0, 0), (77, .goto 4, 80, 81, 0),
  (80, .iload_n 3, 81, 0, 0), (81, .iastore, 82, 0, 0), (82, .iconst 1, 83, 0, 1), (83, .ireturn, 84, 0, 0)]
abbrev M_X11_cell : MI := (yX11_cell, cX11_cell, 4, (some .int), 11, P_X11_cell)
theorem ok_X11_cell : okP 11 cX11_cell P_X11_cell = true := by decide +kernel
def P_X11_copy : List PE := [(0, .iload_n 1, 1, 0, 0), (1, .invokestatic 14, 4, 0, 0), (4, .ifCond .eq 10, 7, 14, 0), (7, .iload_n 3, 8, 0, 0), (8, .invokestatic 14, 11, 0, 0), (11, .ifCond .ne 6, 14, 17, 0), (14, .bipush (-2), 16, 0, (-2)), (16, .ireturn, 17, 0, 0),
  (17, .aload_n 0, 18, 0, 0), (18, .getfield 18, 21, 0, 0), (21, .iload_n 1, 22, 0, 0), (22, .iaload, 23, 0, 0), (23, .ifCond .lt 12, 26, 35, 0), (26, .aload_n 0, 27, 0, 0), (27, .getfield 18, 30, 0, 0), (30, .iload_n 3, 31, 0, 0),
  (31, .iaload, 32, 0, 0), (32, .ifCond .ge 6, 35, 38, 0), (35, .bipush (-11), 37, 0, (-11)), (37, .ireturn, 38, 0, 0), (38, .aload_n 0, 39, 0, 0), (39, .getfield 18, 42, 0, 0), (42, .iload_n 1, 43, 0, 0), (43, .iaload, 44, 0, 0),
  (44, .aload_n 0, 45, 0, 0), (45, .getfield 18, 48, 0, 0), (48, .iload_n 3, 49, 0, 0), (49, .iaload, 50, 0, 0), (50, .if_icmp .eq 6, 53, 56, 0), (53, .bipush (-13), 55, 0, (-13)), (55, .ireturn, 56, 0, 0), (56, .iload 5, 58, 0, 0),
  (58, .ifCond .lt 39, 61, 97, 0), (61, .iload_n 2, 62, 0, 0), (62, .ifCond .lt 35, 65, 97, 0), (65, .iload 4, 67, 0, 0), (67, .ifCond .lt 30, 70, 97, 0), (70, .iload 5, 72, 0, 0), (72, .aload_n 0, 73, 0, 0), (73, .getfield 22, 76, 0, 0),
  (76, .iload_n 1, 77, 0, 0), (77, .iaload, 78, 0, 0), (78, .iload_n 2, 79, 0, 0), (79, .isub, 80, 0, 0), (80, .if_icmp .gt 17, 83, 97, 0), (83, .iload 5, 85, 0, 0), (85, .aload_n 0, 86, 0, 0), (86, .getfield 22, 89, 0, 0),
  (89, .iload_n 3, 90, 0, 0), (90, .iaload, 91, 0, 0), (91, .iload 4, 93, 0, 0), (93, .isub, 94, 0, 0), (94, .if_icmp .le 6, 97, 100, 0), (97, .bipush (-12), 99, 0, (-12)), (99, .ireturn, 100, 0, 0), (100, .iconst 0, 101, 0, 0),
  (101, .istore 6, 103, 0, 0), (103, .iload 6, 105, 0, 0), (105, .iload 5, 107, 0, 0), (107, .if_icmp .ge 30, 110, 137, 0), (110, .aload_n 0, 111, 0, 0), (111, .getfield 208, 114, 0, 0), (114, .iload 6, 116, 0, 0), (116, .aload_n 0, 117, 0, 0),
  (117, .getfield 25, 120, 0, 0), (120, .bipush 40, 122, 0, 40), (122, .iload_n 1, 123, 0, 0), (123, .imul, 124, 0, 0), (124, .iload_n 2, 125, 0, 0), (125, .iadd, 126, 0, 0), (126, .iload 6, 128, 0, 0), (128, .iadd, 129, 0, 0),
  (129, .iaload, 130, 0, 0), (130, .iastore, 131, 0, 0), (131, .iinc 6 1, 134, 0, 1), (134, .goto (-31), 137, 103, 0), (137, .iconst 0, 138, 0, 0), (138, .istore 6, 140, 0, 0), (140, .iload 6, 142, 0, 0), (142, .iload 5, 144, 0, 0),
  (144, .if_icmp .ge 31, 147, 175, 0), (147, .aload_n 0, 148, 0, 0), (148, .getfield 25, 151, 0, 0), (151, .bipush 40, 153, 0, 40), (153, .iload_n 3, 154, 0, 0), (154, .imul, 155, 0, 0), (155, .iload 4, 157, 0, 0), (157, .iadd, 158, 0, 0),
  (158, .iload 6, 160, 0, 0), (160, .iadd, 161, 0, 0), (161, .aload_n 0, 162, 0, 0), (162, .getfield 208, 165, 0, 0), (165, .iload 6, 167, 0, 0), (167, .iaload, 168, 0, 0), (168, .iastore, 169, 0, 0), (169, .iinc 6 1, 172, 0, 1),
  (172, .goto (-32), 175, 140, 0), (175, .iload 5, 177, 0, 0), (177, .ireturn, 178, 0, 0)]
abbrev M_X11_copy : MI := (yX11_copy, cX11_copy, 7, (some .int), 11, P_X11_copy)
theorem ok_X11_copy : okP 11 cX11_copy P_X11_copy = true := by decide +kernel
def P_X11_rules : List PE := [(0, .iload_n 1, 1, 0, 0), (1, .invokestatic 14, 4, 0, 0), (4, .ifCond .eq 23, 7, 27, 0), (7, .iload_n 2, 8, 0, 0), (8, .iconst 0, 9, 0, 0), (9, .iconst 2, 10, 0, 2), (10, .invokestatic 7, 13, 0, 0), (13, .ifCond .eq 14, 16, 27, 0),
  (16, .iload 4, 18, 0, 0), (18, .iconst 0, 19, 0, 0), (19, .bipush 6, 21, 0, 6), (21, .invokestatic 7, 24, 0, 0), (24, .ifCond .ne 6, 27, 30, 0), (27, .bipush (-2), 29, 0, (-2)), (29, .ireturn, 30, 0, 0), (30, .aload_n 0, 31, 0, 0),
  (31, .getfield 18, 34, 0, 0), (34, .iload_n 1, 35, 0, 0), (35, .iaload, 36, 0, 0), (36, .ifCond .ge 6, 39, 42, 0), (39, .bipush (-11), 41, 0, (-11)), (41, .ireturn, 42, 0, 0), (42, .aload_n 0, 43, 0, 0), (43, .getfield 18, 46, 0, 0),
  (46, .iload_n 1, 47, 0, 0), (47, .iaload, 48, 0, 0), (48, .iload_n 2, 49, 0, 0), (49, .if_icmp .eq 6, 52, 55, 0), (52, .bipush (-13), 54, 0, (-13)), (54, .ireturn, 55, 0, 0), (55, .iconst 0, 56, 0, 0), (56, .istore 5, 58, 0, 0),
  (58, .iconst 0, 59, 0, 0), (59, .istore 6, 61, 0, 0), (61, .iload 6, 63, 0, 0), (63, .iload 4, 65, 0, 0), (65, .if_icmp .ge 100, 68, 165, 0), (68, .iload_n 3, 69, 0, 0), (69, .i2l, 70, 0, 0), (70, .ldc2_w 320, 73, 0, 0),
  (73, .iload 6, 75, 0, 0), (75, .i2l, 76, 0, 0), (76, .lmul, 77, 0, 0), (77, .ladd, 78, 0, 0), (78, .lstore 7, 80, 0, 0), (80, .lload 7, 82, 0, 0), (82, .lconst 0, 83, 0, 0), (83, .lcmp, 84, 0, 0),
  (84, .ifCond .lt 20, 87, 104, 0), (87, .lload 7, 89, 0, 0), (89, .ldc2_w 322, 92, 0, 0), (92, .ladd, 93, 0, 0), (93, .aload_n 0, 94, 0, 0), (94, .getfield 22, 97, 0, 0), (97, .iload_n 1, 98, 0, 0), (98, .iaload, 99, 0, 0),
  (99, .i2l, 100, 0, 0), (100, .lcmp, 101, 0, 0), (101, .ifCond .lt 6, 104, 107, 0), (104, .bipush (-12), 106, 0, (-12)), (106, .ireturn, 107, 0, 0), (107, .bipush 40, 109, 0, 40), (109, .iload_n 1, 110, 0, 0), (110, .imul, 111, 0, 0),
  (111, .lload 7, 113, 0, 0), (113, .l2i, 114, 0, 0), (114, .iadd, 115, 0, 0), (115, .istore 9, 117, 0, 0), (117, .iload 5, 119, 0, 0), (119, .aload_n 0, 120, 0, 0), (120, .aload_n 0, 121, 0, 0), (121, .getfield 25, 124, 0, 0),
  (124, .iload 9, 126, 0, 0), (126, .iaload, 127, 0, 0), (127, .aload_n 0, 128, 0, 0), (128, .getfield 25, 131, 0, 0), (131, .iload 9, 133, 0, 0), (133, .iconst 1, 134, 0, 1), (134, .iadd, 135, 0, 0), (135, .iaload, 136, 0, 0),
  (136, .aload_n 0, 137, 0, 0), (137, .getfield 25, 140, 0, 0), (140, .iload 9, 142, 0, 0), (142, .iconst 2, 143, 0, 2), (143, .iadd, 144, 0, 0), (144, .iaload, 145, 0, 0), (145, .invokevirtual 324, 148, 0, 0), (148, .ifCond .lt 7, 151, 155, 0),
  (151, .iconst 1, 152, 0, 1), (152, .goto 4, 155, 156, 0), (155, .iconst 0, 156, 0, 0), (156, .iadd, 157, 0, 0), (157, .istore 5, 159, 0, 0), (159, .iinc 6 1, 162, 0, 1), (162, .goto (-101), 165, 61, 0), (165, .iload 5, 167, 0, 0),
  (167, .ireturn, 168, 0, 0)]
abbrev M_X11_rules : MI := (yX11_rules, cX11_rules, 10, (some .int), 11, P_X11_rules)
theorem ok_X11_rules : okP 11 cX11_rules P_X11_rules = true := by decide +kernel
def P_X11_taken : List PE := [(0, .iload_n 2, 1, 0, 0), (1, .iconst 0, 2, 0, 0), (2, .iconst 5, 3, 0, 5), (3, .invokestatic 7, 6, 0, 0), (6, .ifCond .ne 6, 9, 12, 0), (9, .bipush (-2), 11, 0, (-2)), (11, .ireturn, 12, 0, 0), (12, .aload_n 0, 13, 0, 0),
  (13, .iload_n 1, 14, 0, 0), (14, .invokevirtual 46, 17, 0, 0), (17, .ifCond .ne 6, 20, 23, 0), (20, .bipush (-11), 22, 0, (-11)), (22, .ireturn, 23, 0, 0), (23, .aload_n 0, 24, 0, 0), (24, .getfield 37, 27, 0, 0), (27, .iload_n 1, 28, 0, 0),
  (28, .iaload, 29, 0, 0), (29, .istore_n 3, 30, 0, 0), (30, .iload_n 2, 31, 0, 0), (31, .ifCond .eq 28, 34, 59, 0), (34, .iload_n 2, 35, 0, 0), (35, .iload_n 3, 36, 0, 0), (36, .if_icmp .eq 23, 39, 59, 0), (39, .iload_n 2, 40, 0, 0),
  (40, .iconst 1, 41, 0, 1), (41, .if_icmp .ne 8, 44, 49, 0), (44, .iload_n 3, 45, 0, 0), (45, .iconst 3, 46, 0, 3), (46, .if_icmp .eq 13, 49, 59, 0), (49, .iload_n 2, 50, 0, 0), (50, .iconst 2, 51, 0, 2), (51, .if_icmp .ne 17, 54, 68, 0),
  (54, .iload_n 3, 55, 0, 0), (55, .iconst 4, 56, 0, 4), (56, .if_icmp .ne 12, 59, 68, 0), (59, .aload_n 0, 60, 0, 0), (60, .getfield 43, 63, 0, 0), (63, .iload_n 1, 64, 0, 0), (64, .iaload, 65, 0, 0), (65, .goto 5, 68, 70, 0),
  (68, .bipush (-13), 70, 0, (-13)), (70, .ireturn, 71, 0, 0)]
abbrev M_X11_taken : MI := (yX11_taken, cX11_taken, 4, (some .int), 11, P_X11_taken)
theorem ok_X11_taken : okP 11 cX11_taken P_X11_taken = true := by decide +kernel
end
section
theorem k_0_17 : CVok 0 17 M_X3_last 0 := CV_of [837, 838, 839, 85, 840] (by decide +kernel) (by decide +kernel) (by decide +kernel)
theorem k_0_34 : CVok 0 34 M_X4_vowelCount 1 := CV_of [841, 793, 794, 89, 795] (by decide +kernel) (by decide +kernel) (by decide +kernel)
theorem k_0_47 : CVok 0 47 M_X9_tells 2 := CV_of [850, 851, 852, 92, 853] (by decide +kernel) (by decide +kernel) (by decide +kernel)
theorem k_0_54 : CSok 0 54 M_X0_hardBy 3 := CS_of [860, 861, 90, 862] (by decide +kernel) (by decide +kernel) (by decide +kernel)
theorem k_0_58 : GoodIn GT [.methodLink (Rn 0) 58 Lib.Math.max.name, .static Lib.Math.max.name, .initialized "java/lang/Math", .code Lib.Math.max.name Lib.Math.max.code 2 (some .int)] := GT_list [863, 495, 98, 496] (by decide +kernel) (by decide +kernel)
theorem k_0_64 : CVok 0 64 M_X5_alike 0 := CV_of [909, 910, 911, 88, 912] (by decide +kernel) (by decide +kernel) (by decide +kernel)
theorem k_0_74 : CVok 0 74 M_X4_isTooLong 0 := CV_of [913, 785, 786, 89, 787] (by decide +kernel) (by decide +kernel) (by decide +kernel)
theorem k_0_78 : CVok 0 78 M_X0_regard 4 := CV_of [914, 834, 835, 90, 836] (by decide +kernel) (by decide +kernel) (by decide +kernel)
theorem k_0_82 : CVok 0 82 M_X0_hard 3 := CV_of [915, 847, 848, 90, 849] (by decide +kernel) (by decide +kernel) (by decide +kernel)
theorem k_1_40 : CVok 1 40 M_X5_begin 1 := CV_of [957, 958, 959, 88, 960] (by decide +kernel) (by decide +kernel) (by decide +kernel)
theorem k_1_44 : CVok 1 44 M_X1_goOn 5 := CV_of [961, 963, 36, 91, 964] (by decide +kernel) (by decide +kernel) (by decide +kernel)
theorem k_1_53 : CVok 1 53 M_X0_worth 4 := CV_of [965, 906, 907, 90, 908] (by decide +kernel) (by decide +kernel) (by decide +kernel)
theorem k_1_57 : CVok 1 57 M_X1_keepBetter 2 := CV_of [966, 968, 37, 91, 969] (by decide +kernel) (by decide +kernel) (by decide +kernel)
theorem k_1_61 : CVok 1 61 M_X3_push 1 := CV_of [970, 704, 705, 85, 706] (by decide +kernel) (by decide +kernel) (by decide +kernel)
theorem k_1_65 : CVok 1 65 M_X5_becomeTurned 3 := CV_of [971, 972, 973, 88, 974] (by decide +kernel) (by decide +kernel) (by decide +kernel)
theorem k_2_26 : CVok 2 26 M_X8_scan 0 := CV_of [433, 434, 435, 86, 436] (by decide +kernel) (by decide +kernel) (by decide +kernel)
theorem k_2_31 : CVok 2 31 M_X9_empty 0 := CV_of [538, 539, 540, 92, 541] (by decide +kernel) (by decide +kernel) (by decide +kernel)
theorem k_2_36 : CVok 2 36 M_X2_readPart 2 := CV_of [542, 544, 6, 87, 545] (by decide +kernel) (by decide +kernel) (by decide +kernel)
theorem k_2_40 : CVok 2 40 M_X2_next 0 := CV_of [550, 552, 8, 87, 553] (by decide +kernel) (by decide +kernel) (by decide +kernel)
theorem k_2_44 : CVok 2 44 M_X2_place 0 := CV_of [610, 612, 21, 87, 613] (by decide +kernel) (by decide +kernel) (by decide +kernel)
theorem k_2_60 : CVok 2 60 M_X2_take 1 := CV_of [546, 548, 7, 87, 549] (by decide +kernel) (by decide +kernel) (by decide +kernel)
theorem k_2_64 : CVok 2 64 M_X2_readE 0 := CV_of [554, 556, 9, 87, 557] (by decide +kernel) (by decide +kernel) (by decide +kernel)
theorem k_2_67 : CVok 2 67 M_X9_endPart 1 := CV_of [606, 607, 608, 92, 609] (by decide +kernel) (by decide +kernel) (by decide +kernel)
theorem k_2_71 : CVok 2 71 M_X9_add 3 := CV_of [586, 587, 588, 92, 589] (by decide +kernel) (by decide +kernel) (by decide +kernel)
theorem k_2_75 : CVok 2 75 M_X2_readAnd 0 := CV_of [558, 560, 10, 87, 561] (by decide +kernel) (by decide +kernel) (by decide +kernel)
theorem k_2_78 : CVok 2 78 M_X2_joined 3 := CV_of [602, 604, 20, 87, 605] (by decide +kernel) (by decide +kernel) (by decide +kernel)
theorem k_2_81 : CVok 2 81 M_X2_readNot 0 := CV_of [562, 564, 11, 87, 565] (by decide +kernel) (by decide +kernel) (by decide +kernel)
theorem k_2_84 : CVok 2 84 M_X2_readComparison 0 := CV_of [566, 568, 12, 87, 569] (by decide +kernel) (by decide +kernel) (by decide +kernel)
theorem k_2_87 : CVok 2 87 M_X2_takeOpening 0 := CV_of [590, 592, 17, 87, 593] (by decide +kernel) (by decide +kernel) (by decide +kernel)
theorem k_2_91 : CVok 2 91 M_X2_closed 2 := CV_of [594, 596, 18, 87, 597] (by decide +kernel) (by decide +kernel) (by decide +kernel)
theorem k_2_95 : CVok 2 95 M_X2_readSum 0 := CV_of [570, 572, 13, 87, 573] (by decide +kernel) (by decide +kernel) (by decide +kernel)
theorem k_2_98 : CVok 2 98 M_X2_readTerm 0 := CV_of [574, 576, 14, 87, 577] (by decide +kernel) (by decide +kernel) (by decide +kernel)
theorem k_2_101 : CVok 2 101 M_X2_readOne 0 := CV_of [578, 580, 15, 87, 581] (by decide +kernel) (by decide +kernel) (by decide +kernel)
theorem k_2_104 : CVok 2 104 M_X2_readValue 1 := CV_of [582, 584, 16, 87, 585] (by decide +kernel) (by decide +kernel) (by decide +kernel)
theorem k_2_108 : CVok 2 108 M_X2_readToClosing 0 := CV_of [598, 600, 19, 87, 601] (by decide +kernel) (by decide +kernel) (by decide +kernel)
theorem k_3_19 : GoodIn GT [.methodLink (Rn 3) 19 arraycopyName, .native arraycopyName, .static arraycopyName, .initialized "java/lang/System"] := GT_list [1066, 682, 681, 101] (by decide +kernel) (by decide +kernel)
theorem k_3_25 : CVok 3 25 M_X3_push 1 := CV_of [948, 704, 705, 85, 706] (by decide +kernel) (by decide +kernel) (by decide +kernel)
theorem k_3_29 : CSok 3 29 M_X3_following 1 := CS_of [1042, 1043, 85, 1044] (by decide +kernel) (by decide +kernel) (by decide +kernel)
theorem k_4_27 : GoodIn GT [.methodLink (Rn 4) 27 arraycopyName, .native arraycopyName, .static arraycopyName, .initialized "java/lang/System"] := GT_list [775, 682, 681, 101] (by decide +kernel) (by decide +kernel)
theorem k_4_33 : CVok 4 33 M_X4_begin 2 := CV_of [771, 772, 773, 89, 774] (by decide +kernel) (by decide +kernel) (by decide +kernel)
theorem k_4_37 : CVok 4 37 M_X4_turnByRow 2 := CV_of [776, 777, 778, 89, 779] (by decide +kernel) (by decide +kernel) (by decide +kernel)
theorem k_4_41 : CVok 4 41 M_X4_turn 2 := CV_of [780, 781, 782, 89, 783] (by decide +kernel) (by decide +kernel) (by decide +kernel)
theorem k_4_50 : CVok 4 50 M_X4_isTooLong 0 := CV_of [784, 785, 786, 89, 787] (by decide +kernel) (by decide +kernel) (by decide +kernel)
theorem k_4_63 : CVok 4 63 M_X4_putAfterVowels 2 := CV_of [788, 790, 22, 89, 791] (by decide +kernel) (by decide +kernel) (by decide +kernel)
theorem k_4_70 : CVok 4 70 M_X4_shift 1 := CV_of [796, 798, 23, 89, 799] (by decide +kernel) (by decide +kernel) (by decide +kernel)
theorem k_4_74 : CVok 4 74 M_X4_repeatFirst 0 := CV_of [800, 802, 24, 89, 803] (by decide +kernel) (by decide +kernel) (by decide +kernel)
theorem k_4_77 : CVok 4 77 M_X4_shiftVowels 2 := CV_of [804, 806, 25, 89, 807] (by decide +kernel) (by decide +kernel) (by decide +kernel)
theorem k_4_80 : CVok 4 80 M_X4_reverse 0 := CV_of [808, 810, 26, 89, 811] (by decide +kernel) (by decide +kernel) (by decide +kernel)
theorem k_4_83 : CVok 4 83 M_X4_vowelCount 1 := CV_of [792, 793, 794, 89, 795] (by decide +kernel) (by decide +kernel) (by decide +kernel)
theorem k_5_27 : CVok 5 27 M_X4_begin 2 := CV_of [883, 772, 773, 89, 774] (by decide +kernel) (by decide +kernel) (by decide +kernel)
theorem k_5_31 : CVok 5 31 M_X4_turnByRow 2 := CV_of [884, 777, 778, 89, 779] (by decide +kernel) (by decide +kernel) (by decide +kernel)
theorem k_5_35 : CVok 5 35 M_X4_become 1 := CV_of [975, 976, 977, 89, 978] (by decide +kernel) (by decide +kernel) (by decide +kernel)
theorem k_5_39 : CVok 5 39 M_X4_turn 2 := CV_of [979, 781, 782, 89, 783] (by decide +kernel) (by decide +kernel) (by decide +kernel)
theorem k_5_42 : CVok 5 42 M_X4_isLike 1 := CV_of [893, 894, 895, 89, 896] (by decide +kernel) (by decide +kernel) (by decide +kernel)
theorem k_5_46 : CVok 5 46 M_X4_isTooLong 0 := CV_of [921, 785, 786, 89, 787] (by decide +kernel) (by decide +kernel) (by decide +kernel)
theorem k_5_51 : CVok 5 51 M_X4_differences 1 := CV_of [922, 923, 924, 89, 925] (by decide +kernel) (by decide +kernel) (by decide +kernel)
theorem k_5_55 : GoodIn GT [.methodLink (Rn 5) 55 Lib.Math.min.name, .static Lib.Math.min.name, .initialized "java/lang/Math", .code Lib.Math.min.name Lib.Math.min.code 2 (some .int)] := GT_list [926, 498, 98, 499] (by decide +kernel) (by decide +kernel)
theorem k_6_25 : CVok 6 25 M_X6_become 2 := CV_of [1029, 1030, 1031, 93, 1032] (by decide +kernel) (by decide +kernel) (by decide +kernel)
theorem k_6_32 : GoodIn GT [.methodLink (Rn 6) 32 arraycopyName, .native arraycopyName, .static arraycopyName, .initialized "java/lang/System"] := GT_list [1033, 682, 681, 101] (by decide +kernel) (by decide +kernel)
theorem k_6_38 : CNok 6 38 M_X10_isLetter 1 "AfterEachVowel" := CN_of [674, 83, 675] (by decide +kernel) (by decide +kernel) (by decide +kernel) (by decide +kernel)
theorem k_6_42 : CVok 6 42 M_X4_isTooLong 0 := CV_of [996, 785, 786, 89, 787] (by decide +kernel) (by decide +kernel) (by decide +kernel)
theorem k_7_58 : GoodIn GT [.methodLink (Rn 7) 58 arraycopyName, .native arraycopyName, .static arraycopyName, .initialized "java/lang/System"] := GT_list [680, 682, 681, 101] (by decide +kernel) (by decide +kernel)
theorem k_7_64 : CVok 7 64 M_X7_hasWord 1 := CV_of [719, 720, 721, 84, 722] (by decide +kernel) (by decide +kernel) (by decide +kernel)
theorem k_7_68 : CVok 7 68 M_X7_hasRule 1 := CV_of [723, 700, 701, 84, 702] (by decide +kernel) (by decide +kernel) (by decide +kernel)
theorem k_7_73 : CNok 7 73 M_X10_isWithin 2 "AfterEachVowel" := CN_of [663, 83, 664] (by decide +kernel) (by decide +kernel) (by decide +kernel) (by decide +kernel)
theorem k_7_77 : CNok 7 77 M_X10_isLetter 1 "AfterEachVowel" := CN_of [674, 83, 675] (by decide +kernel) (by decide +kernel) (by decide +kernel) (by decide +kernel)
theorem k_7_82 : CVok 7 82 M_X3_become 1 := CV_of [1062, 1063, 1064, 85, 1065] (by decide +kernel) (by decide +kernel) (by decide +kernel)
theorem k_8_31 : CVok 8 31 M_X8_afterBlanks 1 := CV_of [437, 439, 0, 86, 440] (by decide +kernel) (by decide +kernel) (by decide +kernel)
theorem k_8_35 : CVok 8 35 M_X8_scanToken 1 := CV_of [441, 443, 1, 86, 444] (by decide +kernel) (by decide +kernel) (by decide +kernel)
theorem k_8_38 : CVok 8 38 M_X8_addToken 4 := CV_of [445, 447, 2, 86, 448] (by decide +kernel) (by decide +kernel) (by decide +kernel)
theorem k_8_42 : CVok 8 42 M_X8_scanWord 1 := CV_of [449, 451, 3, 86, 452] (by decide +kernel) (by decide +kernel) (by decide +kernel)
theorem k_8_45 : CVok 8 45 M_X8_scanNumber 1 := CV_of [474, 476, 5, 86, 477] (by decide +kernel) (by decide +kernel) (by decide +kernel)
theorem k_8_55 : CSok 8 55 M_X8_spelling 1 := CS_of [453, 454, 86, 455] (by decide +kernel) (by decide +kernel) (by decide +kernel)
theorem k_8_59 : CVok 8 59 M_X8_isSpelled 3 := CV_of [468, 470, 4, 86, 471] (by decide +kernel) (by decide +kernel) (by decide +kernel)
theorem k_9_31 : CVok 9 31 M_X9_worked 4 := CV_of [854, 856, 29, 92, 857] (by decide +kernel) (by decide +kernel) (by decide +kernel)
theorem k_9_35 : GoodIn GT [.methodLink (Rn 9) 35 Lib.Math.min.name, .static Lib.Math.min.name, .initialized "java/lang/Math", .code Lib.Math.min.name Lib.Math.min.code 2 (some .int)] := GT_list [858, 498, 98, 499] (by decide +kernel) (by decide +kernel)
theorem k_9_41 : GoodIn GT [.methodLink (Rn 9) 41 Lib.Math.max.name, .static Lib.Math.max.name, .initialized "java/lang/Math", .code Lib.Math.max.name Lib.Math.max.code 2 (some .int)] := GT_list [859, 495, 98, 496] (by decide +kernel) (by decide +kernel)
theorem k_10_94 : CVok 10 94 M_X8_put 1 := CV_of [425, 426, 427, 86, 428] (by decide +kernel) (by decide +kernel) (by decide +kernel)
theorem k_10_98 : CVok 10 98 M_X2_read 2 := CV_of [429, 430, 431, 87, 432] (by decide +kernel) (by decide +kernel) (by decide +kernel)
theorem k_10_109 : CSok 10 109 M_X10_isSheet 1 := CS_of [659, 660, 83, 661] (by decide +kernel) (by decide +kernel) (by decide +kernel)
theorem k_10_113 : CSok 10 113 M_X10_isWithin 2 := CS_of [662, 663, 83, 664] (by decide +kernel) (by decide +kernel) (by decide +kernel)
theorem k_10_117 : CVok 10 117 M_X6_isMissing 0 := CV_of [665, 666, 667, 93, 668] (by decide +kernel) (by decide +kernel) (by decide +kernel)
theorem k_10_121 : CVok 10 121 M_X6_tellsWord 0 := CV_of [669, 670, 671, 93, 672] (by decide +kernel) (by decide +kernel) (by decide +kernel)
theorem k_10_127 : CVok 10 127 M_X7_addWord 2 := CV_of [676, 677, 678, 84, 679] (by decide +kernel) (by decide +kernel) (by decide +kernel)
theorem k_10_131 : CSok 10 131 M_X10_isRule 3 := CS_of [687, 688, 83, 689] (by decide +kernel) (by decide +kernel) (by decide +kernel)
theorem k_10_138 : CVok 10 138 M_X7_addRule 3 := CV_of [691, 692, 693, 84, 694] (by decide +kernel) (by decide +kernel) (by decide +kernel)
theorem k_10_142 : CVok 10 142 M_X7_hasRule 1 := CV_of [699, 700, 701, 84, 702] (by decide +kernel) (by decide +kernel) (by decide +kernel)
theorem k_10_149 : CVok 10 149 M_X3_push 1 := CV_of [703, 704, 705, 85, 706] (by decide +kernel) (by decide +kernel) (by decide +kernel)
theorem k_10_152 : CVok 10 152 M_X7_hasPart 2 := CV_of [715, 716, 717, 84, 718] (by decide +kernel) (by decide +kernel) (by decide +kernel)
theorem k_10_155 : CVok 10 155 M_X7_canHold 2 := CV_of [724, 725, 726, 84, 727] (by decide +kernel) (by decide +kernel) (by decide +kernel)
theorem k_10_158 : CVok 10 158 M_X7_part 2 := CV_of [731, 732, 733, 84, 734] (by decide +kernel) (by decide +kernel) (by decide +kernel)
theorem k_10_162 : CVok 10 162 M_X7_change 3 := CV_of [735, 736, 737, 84, 738] (by decide +kernel) (by decide +kernel) (by decide +kernel)
theorem k_10_166 : CVok 10 166 M_X7_hasWord 1 := CV_of [743, 720, 721, 84, 722] (by decide +kernel) (by decide +kernel) (by decide +kernel)
theorem k_10_169 : CVok 10 169 M_X7_letterOf 2 := CV_of [744, 745, 746, 84, 747] (by decide +kernel) (by decide +kernel) (by decide +kernel)
theorem k_10_182 : CSok 10 182 M_X10_isSaidPlace 1 := CS_of [764, 765, 83, 766] (by decide +kernel) (by decide +kernel) (by decide +kernel)
theorem k_10_185 : CVok 10 185 M_X4_say 3 := CV_of [767, 768, 769, 89, 770] (by decide +kernel) (by decide +kernel) (by decide +kernel)
theorem k_10_189 : CVok 10 189 M_X4_answer 1 := CV_of [812, 813, 814, 89, 815] (by decide +kernel) (by decide +kernel) (by decide +kernel)
theorem k_10_193 : CVok 10 193 M_X4_sayByOne 3 := CV_of [820, 821, 822, 89, 823] (by decide +kernel) (by decide +kernel) (by decide +kernel)
theorem k_10_197 : CVok 10 197 M_X10_judged 2 := CV_of [828, 830, 27, 83, 831] (by decide +kernel) (by decide +kernel) (by decide +kernel)
theorem k_10_200 : CVok 10 200 M_X10_roundOf 1 := CV_of [865, 867, 30, 83, 868] (by decide +kernel) (by decide +kernel) (by decide +kernel)
theorem k_10_203 : CVok 10 203 M_X10_safeLetters 1 := CV_of [875, 877, 31, 83, 878] (by decide +kernel) (by decide +kernel) (by decide +kernel)
theorem k_10_206 : CVok 10 206 M_X10_worthBy 1 := CV_of [901, 903, 33, 83, 904] (by decide +kernel) (by decide +kernel) (by decide +kernel)
theorem k_10_210 : CVok 10 210 M_X5_sayAll 2 := CV_of [879, 880, 881, 88, 882] (by decide +kernel) (by decide +kernel) (by decide +kernel)
theorem k_10_214 : CVok 10 214 M_X5_alike 0 := CV_of [916, 910, 911, 88, 912] (by decide +kernel) (by decide +kernel) (by decide +kernel)
theorem k_10_217 : CVok 10 217 M_X5_apart 0 := CV_of [917, 918, 919, 88, 920] (by decide +kernel) (by decide +kernel) (by decide +kernel)
theorem k_10_220 : CVok 10 220 M_X10_idleRules 0 := CV_of [927, 929, 34, 83, 930] (by decide +kernel) (by decide +kernel) (by decide +kernel)
theorem k_10_223 : CVok 10 223 M_X5_tooLong 0 := CV_of [935, 936, 937, 88, 938] (by decide +kernel) (by decide +kernel) (by decide +kernel)
theorem k_10_227 : CVok 10 227 M_X3_becomeWithout 2 := CV_of [944, 945, 946, 85, 947] (by decide +kernel) (by decide +kernel) (by decide +kernel)
theorem k_10_231 : CVok 10 231 M_X10_law 0 := CV_of [842, 844, 28, 83, 845] (by decide +kernel) (by decide +kernel) (by decide +kernel)
theorem k_10_234 : CVok 10 234 M_X1_search 2 := CV_of [953, 954, 955, 91, 956] (by decide +kernel) (by decide +kernel) (by decide +kernel)
theorem k_10_247 : CVok 10 247 M_X10_wordsSaidAs 1 := CV_of [988, 990, 38, 83, 991] (by decide +kernel) (by decide +kernel) (by decide +kernel)
theorem k_10_251 : CVok 10 251 M_X10_rulesTurningTo 1 := CV_of [997, 999, 39, 83, 1000] (by decide +kernel) (by decide +kernel) (by decide +kernel)
theorem k_10_254 : CVok 10 254 M_X10_pairsTurningTo 1 := CV_of [1005, 1007, 41, 83, 1008] (by decide +kernel) (by decide +kernel) (by decide +kernel)
theorem k_10_257 : CVok 10 257 M_X10_fitting 5 := CV_of [1013, 1015, 42, 83, 1016] (by decide +kernel) (by decide +kernel) (by decide +kernel)
theorem k_10_264 : CVok 10 264 M_X0_worth 4 := CV_of [905, 906, 907, 90, 908] (by decide +kernel) (by decide +kernel) (by decide +kernel)
theorem k_10_268 : CVok 10 268 M_X4_isTooLong 0 := CV_of [832, 785, 786, 89, 787] (by decide +kernel) (by decide +kernel) (by decide +kernel)
theorem k_10_271 : CVok 10 271 M_X6_becomeSaying 1 := CV_of [1025, 1026, 1027, 93, 1028] (by decide +kernel) (by decide +kernel) (by decide +kernel)
theorem k_10_276 : CVok 10 276 M_X3_draw 2 := CV_of [1038, 1039, 1040, 85, 1041] (by decide +kernel) (by decide +kernel) (by decide +kernel)
theorem k_10_282 : CSok 10 282 M_X10_commonDivisor 2 := CS_of [1051, 1052, 83, 1053] (by decide +kernel) (by decide +kernel) (by decide +kernel)
theorem k_10_285 : CVok 10 285 M_X7_become 1 := CV_of [1058, 1059, 1060, 84, 1061] (by decide +kernel) (by decide +kernel) (by decide +kernel)
theorem k_10_293 : CVok 10 293 M_X6_become 2 := CV_of [1079, 1030, 1031, 93, 1032] (by decide +kernel) (by decide +kernel) (by decide +kernel)
theorem k_10_296 : CVok 10 296 M_X6_put 2 := CV_of [1084, 1085, 1086, 93, 1087] (by decide +kernel) (by decide +kernel) (by decide +kernel)
theorem k_10_301 : CVok 10 301 M_X6_holds 2 := CV_of [1092, 1093, 1094, 93, 1095] (by decide +kernel) (by decide +kernel) (by decide +kernel)
theorem k_10_307 : GoodIn GT [.methodLink (Rn 10) 307 arraycopyName, .native arraycopyName, .static arraycopyName, .initialized "java/lang/System"] := GT_list [1096, 682, 681, 101] (by decide +kernel) (by decide +kernel)
theorem k_10_313 : CVok 10 313 M_X10_rule 3 := CV_of [1101, 684, 685, 83, 686] (by decide +kernel) (by decide +kernel) (by decide +kernel)
theorem k_10_316 : CSok 10 316 M_X10_isUnder 2 := CS_of [1106, 1107, 83, 1108] (by decide +kernel) (by decide +kernel) (by decide +kernel)
theorem k_10_319 : CSok 10 319 M_X10_isLetter 1 := CS_of [690, 674, 83, 675] (by decide +kernel) (by decide +kernel) (by decide +kernel)
theorem k_10_325 : CVok 10 325 M_X0_regard 4 := CV_of [833, 834, 835, 90, 836] (by decide +kernel) (by decide +kernel) (by decide +kernel)
theorem k_10_329 : CVok 10 329 M_X0_hard 3 := CV_of [846, 847, 848, 90, 849] (by decide +kernel) (by decide +kernel) (by decide +kernel)
theorem k_10_336 : CVok 10 336 M_X9_tells 2 := CV_of [864, 851, 852, 92, 853] (by decide +kernel) (by decide +kernel) (by decide +kernel)
theorem k_10_340 : CVok 10 340 M_X4_begin 2 := CV_of [869, 772, 773, 89, 774] (by decide +kernel) (by decide +kernel) (by decide +kernel)
theorem k_10_344 : CVok 10 344 M_X4_turnByRow 2 := CV_of [870, 777, 778, 89, 779] (by decide +kernel) (by decide +kernel) (by decide +kernel)
theorem k_10_347 : CVok 10 347 M_X4_isWord 2 := CV_of [871, 872, 873, 89, 874] (by decide +kernel) (by decide +kernel) (by decide +kernel)
theorem k_10_351 : CVok 10 351 M_X10_isSafe 2 := CV_of [885, 887, 32, 83, 888] (by decide +kernel) (by decide +kernel) (by decide +kernel)
theorem k_10_358 : CVok 10 358 M_X5_hasAnother 2 := CV_of [889, 890, 891, 88, 892] (by decide +kernel) (by decide +kernel) (by decide +kernel)
theorem k_10_362 : CVok 10 362 M_X10_isIdle 1 := CV_of [931, 933, 35, 83, 934] (by decide +kernel) (by decide +kernel) (by decide +kernel)
theorem k_10_365 : CVok 10 365 M_X6_tells 1 := CV_of [992, 993, 994, 93, 995] (by decide +kernel) (by decide +kernel) (by decide +kernel)
theorem k_10_368 : CVok 10 368 M_X10_wordsTurningTo 2 := CV_of [1001, 1003, 40, 83, 1004] (by decide +kernel) (by decide +kernel) (by decide +kernel)
theorem k_11_7 : CSok 11 7 M_X11_isIn 3 := CS_of [1118, 1119, 100, 1120] (by decide +kernel) (by decide +kernel) (by decide +kernel)
theorem k_11_14 : CSok 11 14 M_X11_isSheet 1 := CS_of [1115, 1116, 100, 1117] (by decide +kernel) (by decide +kernel) (by decide +kernel)
theorem k_11_46 : CVok 11 46 M_X11_isRule 1 := CV_of [1129, 1131, 43, 100, 1133] (by decide +kernel) (by decide +kernel) (by decide +kernel)
theorem k_11_58 : CVok 11 58 M_X11_isWord 1 := CV_of [1142, 1144, 44, 100, 1145] (by decide +kernel) (by decide +kernel) (by decide +kernel)
theorem k_11_61 : CVok 11 61 M_X11_told 2 := CV_of [1150, 1139, 1140, 100, 1141] (by decide +kernel) (by decide +kernel) (by decide +kernel)
theorem k_11_75 : CVok 11 75 M_X11_isLetter 1 := CV_of [1168, 1170, 47, 100, 1171] (by decide +kernel) (by decide +kernel) (by decide +kernel)
theorem k_11_94 : CVok 11 94 M_X11_isDigit 1 := CV_of [1176, 1178, 49, 100, 1179] (by decide +kernel) (by decide +kernel) (by decide +kernel)
theorem k_11_97 : CVok 11 97 M_X11_readWord 0 := CV_of [1172, 1174, 48, 100, 1175] (by decide +kernel) (by decide +kernel) (by decide +kernel)
theorem k_11_101 : CVok 11 101 M_X11_readNumber 0 := CV_of [1180, 1182, 50, 100, 1183] (by decide +kernel) (by decide +kernel) (by decide +kernel)
theorem k_11_119 : CSok 11 119 M_X11_rank 1 := CS_of [1200, 1201, 100, 1202] (by decide +kernel) (by decide +kernel) (by decide +kernel)
theorem k_11_126 : CVok 11 126 M_X11_emit 1 := CV_of [1192, 1194, 53, 100, 1195] (by decide +kernel) (by decide +kernel) (by decide +kernel)
theorem k_11_130 : CVok 11 130 M_X11_isSign 1 := CV_of [1203, 1205, 55, 100, 1206] (by decide +kernel) (by decide +kernel) (by decide +kernel)
theorem k_11_133 : CVok 11 133 M_X11_isKey 1 := CV_of [1184, 1186, 51, 100, 1187] (by decide +kernel) (by decide +kernel) (by decide +kernel)
theorem k_11_143 : CVok 11 143 M_X11_doAll 1 := CV_of [1196, 1198, 54, 100, 1199] (by decide +kernel) (by decide +kernel) (by decide +kernel)
theorem k_11_146 : CVok 11 146 M_X11_await 1 := CV_of [1211, 1213, 57, 100, 1214] (by decide +kernel) (by decide +kernel) (by decide +kernel)
theorem k_11_149 : CVok 11 149 M_X11_ahead 1 := CV_of [1207, 1209, 56, 100, 1210] (by decide +kernel) (by decide +kernel) (by decide +kernel)
theorem k_11_156 : CVok 11 156 M_X11_between 0 := CV_of [1215, 1217, 58, 100, 1218] (by decide +kernel) (by decide +kernel) (by decide +kernel)
theorem k_11_160 : CVok 11 160 M_X11_closes 0 := CV_of [1219, 1221, 59, 100, 1222] (by decide +kernel) (by decide +kernel) (by decide +kernel)
theorem k_11_163 : CVok 11 163 M_X11_next 0 := CV_of [1164, 1166, 46, 100, 1167] (by decide +kernel) (by decide +kernel) (by decide +kernel)
theorem k_11_166 : CVok 11 166 M_X11_readE 1 := CV_of [1188, 1190, 52, 100, 1191] (by decide +kernel) (by decide +kernel) (by decide +kernel)
theorem k_11_172 : CVok 11 172 M_X11_readAll 1 := CV_of [1160, 1162, 45, 100, 1163] (by decide +kernel) (by decide +kernel) (by decide +kernel)
theorem k_11_211 : CVok 11 211 M_X11_isVowel 1 := CV_of [1391, 1393, 64, 100, 1394] (by decide +kernel) (by decide +kernel) (by decide +kernel)
theorem k_11_214 : CSok 11 214 M_X11_done 3 := CS_of [1438, 1439, 100, 1440] (by decide +kernel) (by decide +kernel) (by decide +kernel)
theorem k_11_218 : GoodIn GT [.methodLink (Rn 11) 218 Lib.Math.min.name, .static Lib.Math.min.name, .initialized "java/lang/Math", .code Lib.Math.min.name Lib.Math.min.code 2 (some .int)] := GT_list [1441, 498, 98, 499] (by decide +kernel) (by decide +kernel)
theorem k_11_223 : GoodIn GT [.methodLink (Rn 11) 223 Lib.Math.max.name, .static Lib.Math.max.name, .initialized "java/lang/Math", .code Lib.Math.max.name Lib.Math.max.code 2 (some .int)] := GT_list [1442, 495, 98, 496] (by decide +kernel) (by decide +kernel)
theorem k_11_229 : CVok 11 229 M_X11_turn 1 := CV_of [1387, 1389, 63, 100, 1390] (by decide +kernel) (by decide +kernel) (by decide +kernel)
theorem k_11_232 : CVok 11 232 M_X11_begin 1 := CV_of [1379, 1381, 61, 100, 1382] (by decide +kernel) (by decide +kernel) (by decide +kernel)
theorem k_11_235 : CVok 11 235 M_X11_turnByRow 0 := CV_of [1383, 1385, 62, 100, 1386] (by decide +kernel) (by decide +kernel) (by decide +kernel)
theorem k_11_238 : CVok 11 238 M_X11_say 1 := CV_of [1375, 1377, 60, 100, 1378] (by decide +kernel) (by decide +kernel) (by decide +kernel)
theorem k_11_241 : CSok 11 241 M_X11_letterAt 4 := CS_of [1395, 1396, 100, 1397] (by decide +kernel) (by decide +kernel) (by decide +kernel)
theorem k_11_245 : CVok 11 245 M_X11_isAlike 2 := CV_of [1426, 1428, 70, 100, 1429] (by decide +kernel) (by decide +kernel) (by decide +kernel)
theorem k_11_249 : CVok 11 249 M_X11_says 2 := CV_of [1434, 1436, 72, 100, 1437] (by decide +kernel) (by decide +kernel) (by decide +kernel)
theorem k_11_252 : CVok 11 252 M_X11_sayAll 0 := CV_of [1418, 1420, 68, 100, 1421] (by decide +kernel) (by decide +kernel) (by decide +kernel)
theorem k_11_255 : CVok 11 255 M_X11_alike 0 := CV_of [1422, 1424, 69, 100, 1425] (by decide +kernel) (by decide +kernel) (by decide +kernel)
theorem k_11_259 : CVok 11 259 M_X11_hardOf 1 := CV_of [1430, 1432, 71, 100, 1433] (by decide +kernel) (by decide +kernel) (by decide +kernel)
theorem k_11_262 : CVok 11 262 M_X11_isAsItWas 1 := CV_of [1410, 1412, 66, 100, 1413] (by decide +kernel) (by decide +kernel) (by decide +kernel)
theorem k_11_265 : CVok 11 265 M_X11_round 1 := CV_of [1406, 1408, 65, 100, 1409] (by decide +kernel) (by decide +kernel) (by decide +kernel)
theorem k_11_268 : CVok 11 268 M_X11_safe 1 := CV_of [1414, 1416, 67, 100, 1417] (by decide +kernel) (by decide +kernel) (by decide +kernel)
theorem k_11_272 : CVok 11 272 M_X11_worthNow 0 := CV_of [1448, 1450, 73, 100, 1451] (by decide +kernel) (by decide +kernel) (by decide +kernel)
theorem k_11_275 : CVok 11 275 M_X11_apart 0 := CV_of [1452, 1454, 74, 100, 1455] (by decide +kernel) (by decide +kernel) (by decide +kernel)
theorem k_11_278 : CVok 11 278 M_X11_idle 0 := CV_of [1456, 1458, 75, 100, 1459] (by decide +kernel) (by decide +kernel) (by decide +kernel)
theorem k_11_284 : CVok 11 284 M_X11_layBy 0 := CV_of [1464, 1466, 76, 100, 1467] (by decide +kernel) (by decide +kernel) (by decide +kernel)
theorem k_11_287 : CVok 11 287 M_X11_layBack 0 := CV_of [1468, 1470, 77, 100, 1471] (by decide +kernel) (by decide +kernel) (by decide +kernel)
theorem k_11_290 : CVok 11 290 M_X11_swap 2 := CV_of [1480, 1482, 79, 100, 1483] (by decide +kernel) (by decide +kernel) (by decide +kernel)
theorem k_11_294 : CVok 11 294 M_X11_next_ 1 := CV_of [1476, 1478, 78, 100, 1479] (by decide +kernel) (by decide +kernel) (by decide +kernel)
theorem k_11_296 : CVok 11 296 M_X11_isHeard 1 := CV_of [1492, 1494, 80, 100, 1495] (by decide +kernel) (by decide +kernel) (by decide +kernel)
theorem k_11_299 : CVok 11 299 M_X11_sheet 3 := CV_of [1508, 1509, 1510, 100, 1511] (by decide +kernel) (by decide +kernel) (by decide +kernel)
theorem k_11_303 : CVok 11 303 M_X11_drawRow 1 := CV_of [1516, 1518, 81, 100, 1519] (by decide +kernel) (by decide +kernel) (by decide +kernel)
theorem k_11_308 : CSok 11 308 M_X11_divisor 2 := CS_of [1526, 1527, 100, 1528] (by decide +kernel) (by decide +kernel) (by decide +kernel)
theorem k_11_316 : CSok 11 316 M_X11_move 5 := CS_of [1533, 1534, 100, 1535] (by decide +kernel) (by decide +kernel) (by decide +kernel)
theorem k_11_324 : CVok 11 324 M_X11_rule 3 := CV_of [1559, 1122, 1123, 100, 1124] (by decide +kernel) (by decide +kernel) (by decide +kernel)
end
section
def nx (G : GG) (pc : Nat) (ls st : List AV) (m : Mem) : AR := match G.2.2.2.2.2.1.2.2.2.2.2.lookup pc with
  | some q => astep G.2.2.2.2.2.1.2.2.2.2.1 q ls st m
  | none => none
def nb (G : GG) (pc : Nat) (st : List AV) : Option (Prop × Nat × Nat × List AV) := match G.2.2.2.2.2.1.2.2.2.2.2.lookup pc with
  | some q => abr q st
  | none => none
section
variable {G : GG} {pc np : Nat} {ls ls' st st' : List AV} {m m' : Mem} {P : Prop}
theorem AW.c (h : nx G pc ls st m = some (P, np, ls', st', m')) (hP : P) (k : AW G np ls' st' m') : AW G pc ls st m := by
  unfold nx at h
  cases hq : G.2.2.2.2.2.1.2.2.2.2.2.lookup pc with
  | none => rw [hq] at h; cases h
  | some q => rw [hq] at h; exact AW.step hq h hP k
theorem AW.s (h : nx G pc ls st m = some (True, np, ls', st', m')) (k : AW G np ls' st' m') : AW G pc ls st m := AW.c h trivial k
theorem AW.u (stop : Nat) (hs : Nat.beq pc stop = false) (h : nx G pc ls st m = some (True, np, ls', st', m')) (k : AW G np ls' st' m') : AW G pc ls st m := AW.c h trivial k
theorem AW.b {cd : Prop} {t1 t2 : Nat} (h : nb G pc st = some (cd, t1, t2, st')) (k1 : cd → AW G t1 ls st' m) (k2 : ¬ cd → AW G t2 ls st' m) : AW G pc ls st m := by
  unfold nb at h
  cases hq : G.2.2.2.2.2.1.2.2.2.2.2.lookup pc with
  | none => rw [hq] at h; cases h
  | some q => rw [hq] at h; exact AW.br hq h k1 k2
theorem AW.at {ls2 st2 : List AV} {m2 : Mem} {pc2 : Nat} (k : AW G pc2 ls2 st2 m2) (e1 : pc = pc2) (e2 : ls = ls2) (e3 : st = st2) (e4 : m = m2) : AW G pc ls st m := by subst e1 e2 e3 e4; exact k
theorem ent_n {n : Nat} {vs ls : List AV} (he : ent n vs = ls) (hn : ls.length = n) : (entL vs).length ≤ n := by
  subst he
  unfold ent at hn
  rw [List.length_append, List.length_replicate] at hn
  omega
theorem rR {d nL : Nat} (h : nL ≤ 41) : d + 1 ≤ (rmd (d + 1)).frames ∧ 8 + (nL + 11) + 60 * d ≤ (rmd (d + 1)).locals := ⟨Nat.le_refl _, by show 8 + (nL + 11) + 60 * d ≤ 60 * (d + 1); omega⟩
theorem rR1 {d : Nat} : 1 ≤ (rmd (d + 1)).frames ∧ 60 ≤ (rmd (d + 1)).locals := ⟨Nat.succ_le_succ (Nat.zero_le _), by show 60 ≤ 60 * (d + 1); omega⟩
theorem Meth.post {l : Launch} {X : XT} {d : Nat} {μ : MI} {vs : List AV} {Q Q' : Option AV → Mem → Prop} (h : Meth l X d μ vs m Q) (hq : ∀ r m', Q r m' → Q' r m') : Meth l X d μ vs m Q' := by
  intro hN hov p e ha hc hk s mid args below hf
  refine fun h1 h2 h3 => ?_
  obtain ⟨k, o, h4, h5, h6, ⟨⟨⟨r, m', g1, g2, g3⟩, g4⟩, g5⟩⟩ := h hN hov p e ha hc hk s mid args below hf h1 h2 h3
  exact ⟨k, o, h4, h5, h6, ⟨⟨⟨r, m', g1, hq r m' g2, g3⟩, g4⟩, g5⟩⟩
end

theorem E_X10_learn {l : Launch} {X : XT} {d : Nat} {vs ls : List AV} {m : Mem} {Q : Option AV → Mem → Prop} (he : ent 4 vs = ls) (hn : ls.length = 4) (k : AW (GM l X d M_X10_learn Q) 0 ls [] m) : Meth l X d M_X10_learn vs m Q := Meth.enter ok_X10_learn (by decide) rfl (ent_n he hn) (he ▸ k)
theorem E_X10_rule {l : Launch} {X : XT} {d : Nat} {vs ls : List AV} {m : Mem} {Q : Option AV → Mem → Prop} (he : ent 4 vs = ls) (hn : ls.length = 4) (k : AW (GM l X d M_X10_rule Q) 0 ls [] m) : Meth l X d M_X10_rule vs m Q := Meth.enter ok_X10_rule (by decide) rfl (ent_n he hn) (he ▸ k)
theorem E_X10_then {l : Launch} {X : XT} {d : Nat} {vs ls : List AV} {m : Mem} {Q : Option AV → Mem → Prop} (he : ent 2 vs = ls) (hn : ls.length = 2) (k : AW (GM l X d M_X10_then Q) 0 ls [] m) : Meth l X d M_X10_then vs m Q := Meth.enter ok_X10_then (by decide) rfl (ent_n he hn) (he ▸ k)
theorem E_X10_clear {l : Launch} {X : XT} {d : Nat} {vs ls : List AV} {m : Mem} {Q : Option AV → Mem → Prop} (he : ent 2 vs = ls) (hn : ls.length = 2) (k : AW (GM l X d M_X10_clear Q) 0 ls [] m) : Meth l X d M_X10_clear vs m Q := Meth.enter ok_X10_clear (by decide) rfl (ent_n he hn) (he ▸ k)
theorem E_X10_set {l : Launch} {X : XT} {d : Nat} {vs ls : List AV} {m : Mem} {Q : Option AV → Mem → Prop} (he : ent 5 vs = ls) (hn : ls.length = 5) (k : AW (GM l X d M_X10_set Q) 0 ls [] m) : Meth l X d M_X10_set vs m Q := Meth.enter ok_X10_set (by decide) rfl (ent_n he hn) (he ▸ k)
theorem E_X10_told {l : Launch} {X : XT} {d : Nat} {vs ls : List AV} {m : Mem} {Q : Option AV → Mem → Prop} (he : ent 3 vs = ls) (hn : ls.length = 3) (k : AW (GM l X d M_X10_told Q) 0 ls [] m) : Meth l X d M_X10_told vs m Q := Meth.enter ok_X10_told (by decide) rfl (ent_n he hn) (he ▸ k)
theorem E_X10_feed {l : Launch} {X : XT} {d : Nat} {vs ls : List AV} {m : Mem} {Q : Option AV → Mem → Prop} (he : ent 2 vs = ls) (hn : ls.length = 2) (k : AW (GM l X d M_X10_feed Q) 0 ls [] m) : Meth l X d M_X10_feed vs m Q := Meth.enter ok_X10_feed (by decide) rfl (ent_n he hn) (he ▸ k)
theorem E_X10_text {l : Launch} {X : XT} {d : Nat} {vs ls : List AV} {m : Mem} {Q : Option AV → Mem → Prop} (he : ent 2 vs = ls) (hn : ls.length = 2) (k : AW (GM l X d M_X10_text Q) 0 ls [] m) : Meth l X d M_X10_text vs m Q := Meth.enter ok_X10_text (by decide) rfl (ent_n he hn) (he ▸ k)
theorem E_X10_force {l : Launch} {X : XT} {d : Nat} {vs ls : List AV} {m : Mem} {Q : Option AV → Mem → Prop} (he : ent 3 vs = ls) (hn : ls.length = 3) (k : AW (GM l X d M_X10_force Q) 0 ls [] m) : Meth l X d M_X10_force vs m Q := Meth.enter ok_X10_force (by decide) rfl (ent_n he hn) (he ▸ k)
theorem E_X10_said {l : Launch} {X : XT} {d : Nat} {vs ls : List AV} {m : Mem} {Q : Option AV → Mem → Prop} (he : ent 3 vs = ls) (hn : ls.length = 3) (k : AW (GM l X d M_X10_said Q) 0 ls [] m) : Meth l X d M_X10_said vs m Q := Meth.enter ok_X10_said (by decide) rfl (ent_n he hn) (he ▸ k)
theorem E_X10_turned {l : Launch} {X : XT} {d : Nat} {vs ls : List AV} {m : Mem} {Q : Option AV → Mem → Prop} (he : ent 4 vs = ls) (hn : ls.length = 4) (k : AW (GM l X d M_X10_turned Q) 0 ls [] m) : Meth l X d M_X10_turned vs m Q := Meth.enter ok_X10_turned (by decide) rfl (ent_n he hn) (he ▸ k)
theorem E_X10_of {l : Launch} {X : XT} {d : Nat} {vs ls : List AV} {m : Mem} {Q : Option AV → Mem → Prop} (he : ent 3 vs = ls) (hn : ls.length = 3) (k : AW (GM l X d M_X10_of Q) 0 ls [] m) : Meth l X d M_X10_of vs m Q := Meth.enter ok_X10_of (by decide) rfl (ent_n he hn) (he ▸ k)
theorem E_X10_all {l : Launch} {X : XT} {d : Nat} {vs ls : List AV} {m : Mem} {Q : Option AV → Mem → Prop} (he : ent 2 vs = ls) (hn : ls.length = 2) (k : AW (GM l X d M_X10_all Q) 0 ls [] m) : Meth l X d M_X10_all vs m Q := Meth.enter ok_X10_all (by decide) rfl (ent_n he hn) (he ▸ k)
theorem E_X10_leave {l : Launch} {X : XT} {d : Nat} {vs ls : List AV} {m : Mem} {Q : Option AV → Mem → Prop} (he : ent 6 vs = ls) (hn : ls.length = 6) (k : AW (GM l X d M_X10_leave Q) 0 ls [] m) : Meth l X d M_X10_leave vs m Q := Meth.enter ok_X10_leave (by decide) rfl (ent_n he hn) (he ▸ k)
theorem E_X10_order {l : Launch} {X : XT} {d : Nat} {vs ls : List AV} {m : Mem} {Q : Option AV → Mem → Prop} (he : ent 2 vs = ls) (hn : ls.length = 2) (k : AW (GM l X d M_X10_order Q) 0 ls [] m) : Meth l X d M_X10_order vs m Q := Meth.enter ok_X10_order (by decide) rfl (ent_n he hn) (he ▸ k)
theorem E_X10_letter {l : Launch} {X : XT} {d : Nat} {vs ls : List AV} {m : Mem} {Q : Option AV → Mem → Prop} (he : ent 8 vs = ls) (hn : ls.length = 8) (k : AW (GM l X d M_X10_letter Q) 0 ls [] m) : Meth l X d M_X10_letter vs m Q := Meth.enter ok_X10_letter (by decide) rfl (ent_n he hn) (he ▸ k)
theorem E_X10_heard {l : Launch} {X : XT} {d : Nat} {vs ls : List AV} {m : Mem} {Q : Option AV → Mem → Prop} (he : ent 4 vs = ls) (hn : ls.length = 4) (k : AW (GM l X d M_X10_heard Q) 0 ls [] m) : Meth l X d M_X10_heard vs m Q := Meth.enter ok_X10_heard (by decide) rfl (ent_n he hn) (he ▸ k)
theorem E_X10_found {l : Launch} {X : XT} {d : Nat} {vs ls : List AV} {m : Mem} {Q : Option AV → Mem → Prop} (he : ent 6 vs = ls) (hn : ls.length = 6) (k : AW (GM l X d M_X10_found Q) 0 ls [] m) : Meth l X d M_X10_found vs m Q := Meth.enter ok_X10_found (by decide) rfl (ent_n he hn) (he ▸ k)
theorem E_X10_alikeTexts {l : Launch} {X : XT} {d : Nat} {vs ls : List AV} {m : Mem} {Q : Option AV → Mem → Prop} (he : ent 4 vs = ls) (hn : ls.length = 4) (k : AW (GM l X d M_X10_alikeTexts Q) 0 ls [] m) : Meth l X d M_X10_alikeTexts vs m Q := Meth.enter ok_X10_alikeTexts (by decide) rfl (ent_n he hn) (he ▸ k)
theorem E_X10_film {l : Launch} {X : XT} {d : Nat} {vs ls : List AV} {m : Mem} {Q : Option AV → Mem → Prop} (he : ent 3 vs = ls) (hn : ls.length = 3) (k : AW (GM l X d M_X10_film Q) 0 ls [] m) : Meth l X d M_X10_film vs m Q := Meth.enter ok_X10_film (by decide) rfl (ent_n he hn) (he ▸ k)
theorem E_X10_drawn {l : Launch} {X : XT} {d : Nat} {vs ls : List AV} {m : Mem} {Q : Option AV → Mem → Prop} (he : ent 2 vs = ls) (hn : ls.length = 2) (k : AW (GM l X d M_X10_drawn Q) 0 ls [] m) : Meth l X d M_X10_drawn vs m Q := Meth.enter ok_X10_drawn (by decide) rfl (ent_n he hn) (he ▸ k)
theorem E_X10_chance {l : Launch} {X : XT} {d : Nat} {vs ls : List AV} {m : Mem} {Q : Option AV → Mem → Prop} (he : ent 6 vs = ls) (hn : ls.length = 6) (k : AW (GM l X d M_X10_chance Q) 0 ls [] m) : Meth l X d M_X10_chance vs m Q := Meth.enter ok_X10_chance (by decide) rfl (ent_n he hn) (he ▸ k)
theorem E_X10_image {l : Launch} {X : XT} {d : Nat} {vs ls : List AV} {m : Mem} {Q : Option AV → Mem → Prop} (he : ent 1 vs = ls) (hn : ls.length = 1) (k : AW (GM l X d M_X10_image Q) 0 ls [] m) : Meth l X d M_X10_image vs m Q := Meth.enter ok_X10_image (by decide) rfl (ent_n he hn) (he ▸ k)
theorem E_X10_back {l : Launch} {X : XT} {d : Nat} {vs ls : List AV} {m : Mem} {Q : Option AV → Mem → Prop} (he : ent 1 vs = ls) (hn : ls.length = 1) (k : AW (GM l X d M_X10_back Q) 0 ls [] m) : Meth l X d M_X10_back vs m Q := Meth.enter ok_X10_back (by decide) rfl (ent_n he hn) (he ▸ k)
theorem E_X10_count {l : Launch} {X : XT} {d : Nat} {vs ls : List AV} {m : Mem} {Q : Option AV → Mem → Prop} (he : ent 2 vs = ls) (hn : ls.length = 2) (k : AW (GM l X d M_X10_count Q) 0 ls [] m) : Meth l X d M_X10_count vs m Q := Meth.enter ok_X10_count (by decide) rfl (ent_n he hn) (he ▸ k)
theorem E_X10_sheet {l : Launch} {X : XT} {d : Nat} {vs ls : List AV} {m : Mem} {Q : Option AV → Mem → Prop} (he : ent 4 vs = ls) (hn : ls.length = 4) (k : AW (GM l X d M_X10_sheet Q) 0 ls [] m) : Meth l X d M_X10_sheet vs m Q := Meth.enter ok_X10_sheet (by decide) rfl (ent_n he hn) (he ▸ k)
theorem E_X10_cell {l : Launch} {X : XT} {d : Nat} {vs ls : List AV} {m : Mem} {Q : Option AV → Mem → Prop} (he : ent 5 vs = ls) (hn : ls.length = 5) (k : AW (GM l X d M_X10_cell Q) 0 ls [] m) : Meth l X d M_X10_cell vs m Q := Meth.enter ok_X10_cell (by decide) rfl (ent_n he hn) (he ▸ k)
theorem E_X10_copy {l : Launch} {X : XT} {d : Nat} {vs ls : List AV} {m : Mem} {Q : Option AV → Mem → Prop} (he : ent 8 vs = ls) (hn : ls.length = 8) (k : AW (GM l X d M_X10_copy Q) 0 ls [] m) : Meth l X d M_X10_copy vs m Q := Meth.enter ok_X10_copy (by decide) rfl (ent_n he hn) (he ▸ k)
theorem E_X10_rules {l : Launch} {X : XT} {d : Nat} {vs ls : List AV} {m : Mem} {Q : Option AV → Mem → Prop} (he : ent 9 vs = ls) (hn : ls.length = 9) (k : AW (GM l X d M_X10_rules Q) 0 ls [] m) : Meth l X d M_X10_rules vs m Q := Meth.enter ok_X10_rules (by decide) rfl (ent_n he hn) (he ▸ k)
theorem E_X10_taken {l : Launch} {X : XT} {d : Nat} {vs ls : List AV} {m : Mem} {Q : Option AV → Mem → Prop} (he : ent 3 vs = ls) (hn : ls.length = 3) (k : AW (GM l X d M_X10_taken Q) 0 ls [] m) : Meth l X d M_X10_taken vs m Q := Meth.enter ok_X10_taken (by decide) rfl (ent_n he hn) (he ▸ k)
theorem E_X10_isWithin {l : Launch} {X : XT} {d : Nat} {vs ls : List AV} {m : Mem} {Q : Option AV → Mem → Prop} (he : ent 2 vs = ls) (hn : ls.length = 2) (k : AW (GM l X d M_X10_isWithin Q) 0 ls [] m) : Meth l X d M_X10_isWithin vs m Q := Meth.enter ok_X10_isWithin (by decide) rfl (ent_n he hn) (he ▸ k)
theorem E_X10_isSheet {l : Launch} {X : XT} {d : Nat} {vs ls : List AV} {m : Mem} {Q : Option AV → Mem → Prop} (he : ent 1 vs = ls) (hn : ls.length = 1) (k : AW (GM l X d M_X10_isSheet Q) 0 ls [] m) : Meth l X d M_X10_isSheet vs m Q := Meth.enter ok_X10_isSheet (by decide) rfl (ent_n he hn) (he ▸ k)
theorem E_X10_isLetter {l : Launch} {X : XT} {d : Nat} {vs ls : List AV} {m : Mem} {Q : Option AV → Mem → Prop} (he : ent 1 vs = ls) (hn : ls.length = 1) (k : AW (GM l X d M_X10_isLetter Q) 0 ls [] m) : Meth l X d M_X10_isLetter vs m Q := Meth.enter ok_X10_isLetter (by decide) rfl (ent_n he hn) (he ▸ k)
theorem E_X10_isRule {l : Launch} {X : XT} {d : Nat} {vs ls : List AV} {m : Mem} {Q : Option AV → Mem → Prop} (he : ent 3 vs = ls) (hn : ls.length = 3) (k : AW (GM l X d M_X10_isRule Q) 0 ls [] m) : Meth l X d M_X10_isRule vs m Q := Meth.enter ok_X10_isRule (by decide) rfl (ent_n he hn) (he ▸ k)
theorem E_X10_isSaidPlace {l : Launch} {X : XT} {d : Nat} {vs ls : List AV} {m : Mem} {Q : Option AV → Mem → Prop} (he : ent 1 vs = ls) (hn : ls.length = 1) (k : AW (GM l X d M_X10_isSaidPlace Q) 0 ls [] m) : Meth l X d M_X10_isSaidPlace vs m Q := Meth.enter ok_X10_isSaidPlace (by decide) rfl (ent_n he hn) (he ▸ k)
theorem E_X10_isUnder {l : Launch} {X : XT} {d : Nat} {vs ls : List AV} {m : Mem} {Q : Option AV → Mem → Prop} (he : ent 4 vs = ls) (hn : ls.length = 4) (k : AW (GM l X d M_X10_isUnder Q) 0 ls [] m) : Meth l X d M_X10_isUnder vs m Q := Meth.enter ok_X10_isUnder (by decide) rfl (ent_n he hn) (he ▸ k)
theorem E_X10_commonDivisor {l : Launch} {X : XT} {d : Nat} {vs ls : List AV} {m : Mem} {Q : Option AV → Mem → Prop} (he : ent 4 vs = ls) (hn : ls.length = 4) (k : AW (GM l X d M_X10_commonDivisor Q) 0 ls [] m) : Meth l X d M_X10_commonDivisor vs m Q := Meth.enter ok_X10_commonDivisor (by decide) rfl (ent_n he hn) (he ▸ k)
theorem E_X10_law {l : Launch} {X : XT} {d : Nat} {vs ls : List AV} {m : Mem} {Q : Option AV → Mem → Prop} (he : ent 1 vs = ls) (hn : ls.length = 1) (k : AW (GM l X d M_X10_law Q) 0 ls [] m) : Meth l X d M_X10_law vs m Q := Meth.enter ok_X10_law (by decide) rfl (ent_n he hn) (he ▸ k)
theorem E_X10_worthBy {l : Launch} {X : XT} {d : Nat} {vs ls : List AV} {m : Mem} {Q : Option AV → Mem → Prop} (he : ent 2 vs = ls) (hn : ls.length = 2) (k : AW (GM l X d M_X10_worthBy Q) 0 ls [] m) : Meth l X d M_X10_worthBy vs m Q := Meth.enter ok_X10_worthBy (by decide) rfl (ent_n he hn) (he ▸ k)
theorem E_X10_judged {l : Launch} {X : XT} {d : Nat} {vs ls : List AV} {m : Mem} {Q : Option AV → Mem → Prop} (he : ent 3 vs = ls) (hn : ls.length = 3) (k : AW (GM l X d M_X10_judged Q) 0 ls [] m) : Meth l X d M_X10_judged vs m Q := Meth.enter ok_X10_judged (by decide) rfl (ent_n he hn) (he ▸ k)
theorem E_X10_roundOf {l : Launch} {X : XT} {d : Nat} {vs ls : List AV} {m : Mem} {Q : Option AV → Mem → Prop} (he : ent 3 vs = ls) (hn : ls.length = 3) (k : AW (GM l X d M_X10_roundOf Q) 0 ls [] m) : Meth l X d M_X10_roundOf vs m Q := Meth.enter ok_X10_roundOf (by decide) rfl (ent_n he hn) (he ▸ k)
theorem E_X10_safeLetters {l : Launch} {X : XT} {d : Nat} {vs ls : List AV} {m : Mem} {Q : Option AV → Mem → Prop} (he : ent 4 vs = ls) (hn : ls.length = 4) (k : AW (GM l X d M_X10_safeLetters Q) 0 ls [] m) : Meth l X d M_X10_safeLetters vs m Q := Meth.enter ok_X10_safeLetters (by decide) rfl (ent_n he hn) (he ▸ k)
theorem E_X10_isSafe {l : Launch} {X : XT} {d : Nat} {vs ls : List AV} {m : Mem} {Q : Option AV → Mem → Prop} (he : ent 7 vs = ls) (hn : ls.length = 7) (k : AW (GM l X d M_X10_isSafe Q) 0 ls [] m) : Meth l X d M_X10_isSafe vs m Q := Meth.enter ok_X10_isSafe (by decide) rfl (ent_n he hn) (he ▸ k)
theorem E_X10_idleRules {l : Launch} {X : XT} {d : Nat} {vs ls : List AV} {m : Mem} {Q : Option AV → Mem → Prop} (he : ent 3 vs = ls) (hn : ls.length = 3) (k : AW (GM l X d M_X10_idleRules Q) 0 ls [] m) : Meth l X d M_X10_idleRules vs m Q := Meth.enter ok_X10_idleRules (by decide) rfl (ent_n he hn) (he ▸ k)
theorem E_X10_isIdle {l : Launch} {X : XT} {d : Nat} {vs ls : List AV} {m : Mem} {Q : Option AV → Mem → Prop} (he : ent 3 vs = ls) (hn : ls.length = 3) (k : AW (GM l X d M_X10_isIdle Q) 0 ls [] m) : Meth l X d M_X10_isIdle vs m Q := Meth.enter ok_X10_isIdle (by decide) rfl (ent_n he hn) (he ▸ k)
theorem E_X10_wordsSaidAs {l : Launch} {X : XT} {d : Nat} {vs ls : List AV} {m : Mem} {Q : Option AV → Mem → Prop} (he : ent 4 vs = ls) (hn : ls.length = 4) (k : AW (GM l X d M_X10_wordsSaidAs Q) 0 ls [] m) : Meth l X d M_X10_wordsSaidAs vs m Q := Meth.enter ok_X10_wordsSaidAs (by decide) rfl (ent_n he hn) (he ▸ k)
theorem E_X10_wordsTurningTo {l : Launch} {X : XT} {d : Nat} {vs ls : List AV} {m : Mem} {Q : Option AV → Mem → Prop} (he : ent 5 vs = ls) (hn : ls.length = 5) (k : AW (GM l X d M_X10_wordsTurningTo Q) 0 ls [] m) : Meth l X d M_X10_wordsTurningTo vs m Q := Meth.enter ok_X10_wordsTurningTo (by decide) rfl (ent_n he hn) (he ▸ k)
theorem E_X10_rulesTurningTo {l : Launch} {X : XT} {d : Nat} {vs ls : List AV} {m : Mem} {Q : Option AV → Mem → Prop} (he : ent 4 vs = ls) (hn : ls.length = 4) (k : AW (GM l X d M_X10_rulesTurningTo Q) 0 ls [] m) : Meth l X d M_X10_rulesTurningTo vs m Q := Meth.enter ok_X10_rulesTurningTo (by decide) rfl (ent_n he hn) (he ▸ k)
theorem E_X10_pairsTurningTo {l : Launch} {X : XT} {d : Nat} {vs ls : List AV} {m : Mem} {Q : Option AV → Mem → Prop} (he : ent 4 vs = ls) (hn : ls.length = 4) (k : AW (GM l X d M_X10_pairsTurningTo Q) 0 ls [] m) : Meth l X d M_X10_pairsTurningTo vs m Q := Meth.enter ok_X10_pairsTurningTo (by decide) rfl (ent_n he hn) (he ▸ k)
theorem E_X10_fitting {l : Launch} {X : XT} {d : Nat} {vs ls : List AV} {m : Mem} {Q : Option AV → Mem → Prop} (he : ent 9 vs = ls) (hn : ls.length = 9) (k : AW (GM l X d M_X10_fitting Q) 0 ls [] m) : Meth l X d M_X10_fitting vs m Q := Meth.enter ok_X10_fitting (by decide) rfl (ent_n he hn) (he ▸ k)
theorem E_X11_isIn {l : Launch} {X : XT} {d : Nat} {vs ls : List AV} {m : Mem} {Q : Option AV → Mem → Prop} (he : ent 3 vs = ls) (hn : ls.length = 3) (k : AW (GM l X d M_X11_isIn Q) 0 ls [] m) : Meth l X d M_X11_isIn vs m Q := Meth.enter ok_X11_isIn (by decide) rfl (ent_n he hn) (he ▸ k)
theorem E_X11_isWord {l : Launch} {X : XT} {d : Nat} {vs ls : List AV} {m : Mem} {Q : Option AV → Mem → Prop} (he : ent 2 vs = ls) (hn : ls.length = 2) (k : AW (GM l X d M_X11_isWord Q) 0 ls [] m) : Meth l X d M_X11_isWord vs m Q := Meth.enter ok_X11_isWord (by decide) rfl (ent_n he hn) (he ▸ k)
theorem E_X11_isRule {l : Launch} {X : XT} {d : Nat} {vs ls : List AV} {m : Mem} {Q : Option AV → Mem → Prop} (he : ent 2 vs = ls) (hn : ls.length = 2) (k : AW (GM l X d M_X11_isRule Q) 0 ls [] m) : Meth l X d M_X11_isRule vs m Q := Meth.enter ok_X11_isRule (by decide) rfl (ent_n he hn) (he ▸ k)
theorem E_X11_learn {l : Launch} {X : XT} {d : Nat} {vs ls : List AV} {m : Mem} {Q : Option AV → Mem → Prop} (he : ent 5 vs = ls) (hn : ls.length = 5) (k : AW (GM l X d M_X11_learn Q) 0 ls [] m) : Meth l X d M_X11_learn vs m Q := Meth.enter ok_X11_learn (by decide) rfl (ent_n he hn) (he ▸ k)
theorem E_X11_rule {l : Launch} {X : XT} {d : Nat} {vs ls : List AV} {m : Mem} {Q : Option AV → Mem → Prop} (he : ent 4 vs = ls) (hn : ls.length = 4) (k : AW (GM l X d M_X11_rule Q) 0 ls [] m) : Meth l X d M_X11_rule vs m Q := Meth.enter ok_X11_rule (by decide) rfl (ent_n he hn) (he ▸ k)
theorem E_X11_then {l : Launch} {X : XT} {d : Nat} {vs ls : List AV} {m : Mem} {Q : Option AV → Mem → Prop} (he : ent 2 vs = ls) (hn : ls.length = 2) (k : AW (GM l X d M_X11_then Q) 0 ls [] m) : Meth l X d M_X11_then vs m Q := Meth.enter ok_X11_then (by decide) rfl (ent_n he hn) (he ▸ k)
theorem E_X11_clear {l : Launch} {X : XT} {d : Nat} {vs ls : List AV} {m : Mem} {Q : Option AV → Mem → Prop} (he : ent 2 vs = ls) (hn : ls.length = 2) (k : AW (GM l X d M_X11_clear Q) 0 ls [] m) : Meth l X d M_X11_clear vs m Q := Meth.enter ok_X11_clear (by decide) rfl (ent_n he hn) (he ▸ k)
theorem E_X11_told {l : Launch} {X : XT} {d : Nat} {vs ls : List AV} {m : Mem} {Q : Option AV → Mem → Prop} (he : ent 3 vs = ls) (hn : ls.length = 3) (k : AW (GM l X d M_X11_told Q) 0 ls [] m) : Meth l X d M_X11_told vs m Q := Meth.enter ok_X11_told (by decide) rfl (ent_n he hn) (he ▸ k)
theorem E_X11_set {l : Launch} {X : XT} {d : Nat} {vs ls : List AV} {m : Mem} {Q : Option AV → Mem → Prop} (he : ent 6 vs = ls) (hn : ls.length = 6) (k : AW (GM l X d M_X11_set Q) 0 ls [] m) : Meth l X d M_X11_set vs m Q := Meth.enter ok_X11_set (by decide) rfl (ent_n he hn) (he ▸ k)
theorem E_X11_feed {l : Launch} {X : XT} {d : Nat} {vs ls : List AV} {m : Mem} {Q : Option AV → Mem → Prop} (he : ent 2 vs = ls) (hn : ls.length = 2) (k : AW (GM l X d M_X11_feed Q) 0 ls [] m) : Meth l X d M_X11_feed vs m Q := Meth.enter ok_X11_feed (by decide) rfl (ent_n he hn) (he ▸ k)
theorem E_X11_isLetter {l : Launch} {X : XT} {d : Nat} {vs ls : List AV} {m : Mem} {Q : Option AV → Mem → Prop} (he : ent 2 vs = ls) (hn : ls.length = 2) (k : AW (GM l X d M_X11_isLetter Q) 0 ls [] m) : Meth l X d M_X11_isLetter vs m Q := Meth.enter ok_X11_isLetter (by decide) rfl (ent_n he hn) (he ▸ k)
theorem E_X11_isDigit {l : Launch} {X : XT} {d : Nat} {vs ls : List AV} {m : Mem} {Q : Option AV → Mem → Prop} (he : ent 2 vs = ls) (hn : ls.length = 2) (k : AW (GM l X d M_X11_isDigit Q) 0 ls [] m) : Meth l X d M_X11_isDigit vs m Q := Meth.enter ok_X11_isDigit (by decide) rfl (ent_n he hn) (he ▸ k)
theorem E_X11_readWord {l : Launch} {X : XT} {d : Nat} {vs ls : List AV} {m : Mem} {Q : Option AV → Mem → Prop} (he : ent 5 vs = ls) (hn : ls.length = 5) (k : AW (GM l X d M_X11_readWord Q) 0 ls [] m) : Meth l X d M_X11_readWord vs m Q := Meth.enter ok_X11_readWord (by decide) rfl (ent_n he hn) (he ▸ k)
theorem E_X11_readNumber {l : Launch} {X : XT} {d : Nat} {vs ls : List AV} {m : Mem} {Q : Option AV → Mem → Prop} (he : ent 1 vs = ls) (hn : ls.length = 1) (k : AW (GM l X d M_X11_readNumber Q) 0 ls [] m) : Meth l X d M_X11_readNumber vs m Q := Meth.enter ok_X11_readNumber (by decide) rfl (ent_n he hn) (he ▸ k)
theorem E_X11_next {l : Launch} {X : XT} {d : Nat} {vs ls : List AV} {m : Mem} {Q : Option AV → Mem → Prop} (he : ent 2 vs = ls) (hn : ls.length = 2) (k : AW (GM l X d M_X11_next Q) 0 ls [] m) : Meth l X d M_X11_next vs m Q := Meth.enter ok_X11_next (by decide) rfl (ent_n he hn) (he ▸ k)
theorem E_X11_isSign {l : Launch} {X : XT} {d : Nat} {vs ls : List AV} {m : Mem} {Q : Option AV → Mem → Prop} (he : ent 2 vs = ls) (hn : ls.length = 2) (k : AW (GM l X d M_X11_isSign Q) 0 ls [] m) : Meth l X d M_X11_isSign vs m Q := Meth.enter ok_X11_isSign (by decide) rfl (ent_n he hn) (he ▸ k)
theorem E_X11_isKey {l : Launch} {X : XT} {d : Nat} {vs ls : List AV} {m : Mem} {Q : Option AV → Mem → Prop} (he : ent 2 vs = ls) (hn : ls.length = 2) (k : AW (GM l X d M_X11_isKey Q) 0 ls [] m) : Meth l X d M_X11_isKey vs m Q := Meth.enter ok_X11_isKey (by decide) rfl (ent_n he hn) (he ▸ k)
theorem E_X11_emit {l : Launch} {X : XT} {d : Nat} {vs ls : List AV} {m : Mem} {Q : Option AV → Mem → Prop} (he : ent 2 vs = ls) (hn : ls.length = 2) (k : AW (GM l X d M_X11_emit Q) 0 ls [] m) : Meth l X d M_X11_emit vs m Q := Meth.enter ok_X11_emit (by decide) rfl (ent_n he hn) (he ▸ k)
theorem E_X11_rank {l : Launch} {X : XT} {d : Nat} {vs ls : List AV} {m : Mem} {Q : Option AV → Mem → Prop} (he : ent 1 vs = ls) (hn : ls.length = 1) (k : AW (GM l X d M_X11_rank Q) 0 ls [] m) : Meth l X d M_X11_rank vs m Q := Meth.enter ok_X11_rank (by decide) rfl (ent_n he hn) (he ▸ k)
theorem E_X11_doAll {l : Launch} {X : XT} {d : Nat} {vs ls : List AV} {m : Mem} {Q : Option AV → Mem → Prop} (he : ent 2 vs = ls) (hn : ls.length = 2) (k : AW (GM l X d M_X11_doAll Q) 0 ls [] m) : Meth l X d M_X11_doAll vs m Q := Meth.enter ok_X11_doAll (by decide) rfl (ent_n he hn) (he ▸ k)
theorem E_X11_await {l : Launch} {X : XT} {d : Nat} {vs ls : List AV} {m : Mem} {Q : Option AV → Mem → Prop} (he : ent 2 vs = ls) (hn : ls.length = 2) (k : AW (GM l X d M_X11_await Q) 0 ls [] m) : Meth l X d M_X11_await vs m Q := Meth.enter ok_X11_await (by decide) rfl (ent_n he hn) (he ▸ k)
theorem E_X11_between {l : Launch} {X : XT} {d : Nat} {vs ls : List AV} {m : Mem} {Q : Option AV → Mem → Prop} (he : ent 2 vs = ls) (hn : ls.length = 2) (k : AW (GM l X d M_X11_between Q) 0 ls [] m) : Meth l X d M_X11_between vs m Q := Meth.enter ok_X11_between (by decide) rfl (ent_n he hn) (he ▸ k)
theorem E_X11_closes {l : Launch} {X : XT} {d : Nat} {vs ls : List AV} {m : Mem} {Q : Option AV → Mem → Prop} (he : ent 1 vs = ls) (hn : ls.length = 1) (k : AW (GM l X d M_X11_closes Q) 0 ls [] m) : Meth l X d M_X11_closes vs m Q := Meth.enter ok_X11_closes (by decide) rfl (ent_n he hn) (he ▸ k)
theorem E_X11_ahead {l : Launch} {X : XT} {d : Nat} {vs ls : List AV} {m : Mem} {Q : Option AV → Mem → Prop} (he : ent 3 vs = ls) (hn : ls.length = 3) (k : AW (GM l X d M_X11_ahead Q) 0 ls [] m) : Meth l X d M_X11_ahead vs m Q := Meth.enter ok_X11_ahead (by decide) rfl (ent_n he hn) (he ▸ k)
theorem E_X11_readE {l : Launch} {X : XT} {d : Nat} {vs ls : List AV} {m : Mem} {Q : Option AV → Mem → Prop} (he : ent 5 vs = ls) (hn : ls.length = 5) (k : AW (GM l X d M_X11_readE Q) 0 ls [] m) : Meth l X d M_X11_readE vs m Q := Meth.enter ok_X11_readE (by decide) rfl (ent_n he hn) (he ▸ k)
theorem E_X11_readAll {l : Launch} {X : XT} {d : Nat} {vs ls : List AV} {m : Mem} {Q : Option AV → Mem → Prop} (he : ent 3 vs = ls) (hn : ls.length = 3) (k : AW (GM l X d M_X11_readAll Q) 0 ls [] m) : Meth l X d M_X11_readAll vs m Q := Meth.enter ok_X11_readAll (by decide) rfl (ent_n he hn) (he ▸ k)
theorem E_X11_text {l : Launch} {X : XT} {d : Nat} {vs ls : List AV} {m : Mem} {Q : Option AV → Mem → Prop} (he : ent 2 vs = ls) (hn : ls.length = 2) (k : AW (GM l X d M_X11_text Q) 0 ls [] m) : Meth l X d M_X11_text vs m Q := Meth.enter ok_X11_text (by decide) rfl (ent_n he hn) (he ▸ k)
theorem E_X11_force {l : Launch} {X : XT} {d : Nat} {vs ls : List AV} {m : Mem} {Q : Option AV → Mem → Prop} (he : ent 3 vs = ls) (hn : ls.length = 3) (k : AW (GM l X d M_X11_force Q) 0 ls [] m) : Meth l X d M_X11_force vs m Q := Meth.enter ok_X11_force (by decide) rfl (ent_n he hn) (he ▸ k)
theorem E_X11_done {l : Launch} {X : XT} {d : Nat} {vs ls : List AV} {m : Mem} {Q : Option AV → Mem → Prop} (he : ent 3 vs = ls) (hn : ls.length = 3) (k : AW (GM l X d M_X11_done Q) 0 ls [] m) : Meth l X d M_X11_done vs m Q := Meth.enter ok_X11_done (by decide) rfl (ent_n he hn) (he ▸ k)
theorem E_X11_says {l : Launch} {X : XT} {d : Nat} {vs ls : List AV} {m : Mem} {Q : Option AV → Mem → Prop} (he : ent 8 vs = ls) (hn : ls.length = 8) (k : AW (GM l X d M_X11_says Q) 0 ls [] m) : Meth l X d M_X11_says vs m Q := Meth.enter ok_X11_says (by decide) rfl (ent_n he hn) (he ▸ k)
theorem E_X11_isVowel {l : Launch} {X : XT} {d : Nat} {vs ls : List AV} {m : Mem} {Q : Option AV → Mem → Prop} (he : ent 2 vs = ls) (hn : ls.length = 2) (k : AW (GM l X d M_X11_isVowel Q) 0 ls [] m) : Meth l X d M_X11_isVowel vs m Q := Meth.enter ok_X11_isVowel (by decide) rfl (ent_n he hn) (he ▸ k)
theorem E_X11_turn {l : Launch} {X : XT} {d : Nat} {vs ls : List AV} {m : Mem} {Q : Option AV → Mem → Prop} (he : ent 7 vs = ls) (hn : ls.length = 7) (k : AW (GM l X d M_X11_turn Q) 0 ls [] m) : Meth l X d M_X11_turn vs m Q := Meth.enter ok_X11_turn (by decide) rfl (ent_n he hn) (he ▸ k)
theorem E_X11_begin {l : Launch} {X : XT} {d : Nat} {vs ls : List AV} {m : Mem} {Q : Option AV → Mem → Prop} (he : ent 3 vs = ls) (hn : ls.length = 3) (k : AW (GM l X d M_X11_begin Q) 0 ls [] m) : Meth l X d M_X11_begin vs m Q := Meth.enter ok_X11_begin (by decide) rfl (ent_n he hn) (he ▸ k)
theorem E_X11_turnByRow {l : Launch} {X : XT} {d : Nat} {vs ls : List AV} {m : Mem} {Q : Option AV → Mem → Prop} (he : ent 2 vs = ls) (hn : ls.length = 2) (k : AW (GM l X d M_X11_turnByRow Q) 0 ls [] m) : Meth l X d M_X11_turnByRow vs m Q := Meth.enter ok_X11_turnByRow (by decide) rfl (ent_n he hn) (he ▸ k)
theorem E_X11_say {l : Launch} {X : XT} {d : Nat} {vs ls : List AV} {m : Mem} {Q : Option AV → Mem → Prop} (he : ent 3 vs = ls) (hn : ls.length = 3) (k : AW (GM l X d M_X11_say Q) 0 ls [] m) : Meth l X d M_X11_say vs m Q := Meth.enter ok_X11_say (by decide) rfl (ent_n he hn) (he ▸ k)
theorem E_X11_sayAll {l : Launch} {X : XT} {d : Nat} {vs ls : List AV} {m : Mem} {Q : Option AV → Mem → Prop} (he : ent 2 vs = ls) (hn : ls.length = 2) (k : AW (GM l X d M_X11_sayAll Q) 0 ls [] m) : Meth l X d M_X11_sayAll vs m Q := Meth.enter ok_X11_sayAll (by decide) rfl (ent_n he hn) (he ▸ k)
theorem E_X11_letterAt {l : Launch} {X : XT} {d : Nat} {vs ls : List AV} {m : Mem} {Q : Option AV → Mem → Prop} (he : ent 4 vs = ls) (hn : ls.length = 4) (k : AW (GM l X d M_X11_letterAt Q) 0 ls [] m) : Meth l X d M_X11_letterAt vs m Q := Meth.enter ok_X11_letterAt (by decide) rfl (ent_n he hn) (he ▸ k)
theorem E_X11_said {l : Launch} {X : XT} {d : Nat} {vs ls : List AV} {m : Mem} {Q : Option AV → Mem → Prop} (he : ent 3 vs = ls) (hn : ls.length = 3) (k : AW (GM l X d M_X11_said Q) 0 ls [] m) : Meth l X d M_X11_said vs m Q := Meth.enter ok_X11_said (by decide) rfl (ent_n he hn) (he ▸ k)
theorem E_X11_turned {l : Launch} {X : XT} {d : Nat} {vs ls : List AV} {m : Mem} {Q : Option AV → Mem → Prop} (he : ent 4 vs = ls) (hn : ls.length = 4) (k : AW (GM l X d M_X11_turned Q) 0 ls [] m) : Meth l X d M_X11_turned vs m Q := Meth.enter ok_X11_turned (by decide) rfl (ent_n he hn) (he ▸ k)
theorem E_X11_isAlike {l : Launch} {X : XT} {d : Nat} {vs ls : List AV} {m : Mem} {Q : Option AV → Mem → Prop} (he : ent 5 vs = ls) (hn : ls.length = 5) (k : AW (GM l X d M_X11_isAlike Q) 0 ls [] m) : Meth l X d M_X11_isAlike vs m Q := Meth.enter ok_X11_isAlike (by decide) rfl (ent_n he hn) (he ▸ k)
theorem E_X11_alike {l : Launch} {X : XT} {d : Nat} {vs ls : List AV} {m : Mem} {Q : Option AV → Mem → Prop} (he : ent 4 vs = ls) (hn : ls.length = 4) (k : AW (GM l X d M_X11_alike Q) 0 ls [] m) : Meth l X d M_X11_alike vs m Q := Meth.enter ok_X11_alike (by decide) rfl (ent_n he hn) (he ▸ k)
theorem E_X11_hardOf {l : Launch} {X : XT} {d : Nat} {vs ls : List AV} {m : Mem} {Q : Option AV → Mem → Prop} (he : ent 4 vs = ls) (hn : ls.length = 4) (k : AW (GM l X d M_X11_hardOf Q) 0 ls [] m) : Meth l X d M_X11_hardOf vs m Q := Meth.enter ok_X11_hardOf (by decide) rfl (ent_n he hn) (he ▸ k)
theorem E_X11_worthNow {l : Launch} {X : XT} {d : Nat} {vs ls : List AV} {m : Mem} {Q : Option AV → Mem → Prop} (he : ent 4 vs = ls) (hn : ls.length = 4) (k : AW (GM l X d M_X11_worthNow Q) 0 ls [] m) : Meth l X d M_X11_worthNow vs m Q := Meth.enter ok_X11_worthNow (by decide) rfl (ent_n he hn) (he ▸ k)
theorem E_X11_isAsItWas {l : Launch} {X : XT} {d : Nat} {vs ls : List AV} {m : Mem} {Q : Option AV → Mem → Prop} (he : ent 4 vs = ls) (hn : ls.length = 4) (k : AW (GM l X d M_X11_isAsItWas Q) 0 ls [] m) : Meth l X d M_X11_isAsItWas vs m Q := Meth.enter ok_X11_isAsItWas (by decide) rfl (ent_n he hn) (he ▸ k)
theorem E_X11_round {l : Launch} {X : XT} {d : Nat} {vs ls : List AV} {m : Mem} {Q : Option AV → Mem → Prop} (he : ent 3 vs = ls) (hn : ls.length = 3) (k : AW (GM l X d M_X11_round Q) 0 ls [] m) : Meth l X d M_X11_round vs m Q := Meth.enter ok_X11_round (by decide) rfl (ent_n he hn) (he ▸ k)
theorem E_X11_safe {l : Launch} {X : XT} {d : Nat} {vs ls : List AV} {m : Mem} {Q : Option AV → Mem → Prop} (he : ent 7 vs = ls) (hn : ls.length = 7) (k : AW (GM l X d M_X11_safe Q) 0 ls [] m) : Meth l X d M_X11_safe vs m Q := Meth.enter ok_X11_safe (by decide) rfl (ent_n he hn) (he ▸ k)
theorem E_X11_of {l : Launch} {X : XT} {d : Nat} {vs ls : List AV} {m : Mem} {Q : Option AV → Mem → Prop} (he : ent 3 vs = ls) (hn : ls.length = 3) (k : AW (GM l X d M_X11_of Q) 0 ls [] m) : Meth l X d M_X11_of vs m Q := Meth.enter ok_X11_of (by decide) rfl (ent_n he hn) (he ▸ k)
theorem E_X11_apart {l : Launch} {X : XT} {d : Nat} {vs ls : List AV} {m : Mem} {Q : Option AV → Mem → Prop} (he : ent 6 vs = ls) (hn : ls.length = 6) (k : AW (GM l X d M_X11_apart Q) 0 ls [] m) : Meth l X d M_X11_apart vs m Q := Meth.enter ok_X11_apart (by decide) rfl (ent_n he hn) (he ▸ k)
theorem E_X11_idle {l : Launch} {X : XT} {d : Nat} {vs ls : List AV} {m : Mem} {Q : Option AV → Mem → Prop} (he : ent 5 vs = ls) (hn : ls.length = 5) (k : AW (GM l X d M_X11_idle Q) 0 ls [] m) : Meth l X d M_X11_idle vs m Q := Meth.enter ok_X11_idle (by decide) rfl (ent_n he hn) (he ▸ k)
theorem E_X11_all {l : Launch} {X : XT} {d : Nat} {vs ls : List AV} {m : Mem} {Q : Option AV → Mem → Prop} (he : ent 4 vs = ls) (hn : ls.length = 4) (k : AW (GM l X d M_X11_all Q) 0 ls [] m) : Meth l X d M_X11_all vs m Q := Meth.enter ok_X11_all (by decide) rfl (ent_n he hn) (he ▸ k)
theorem E_X11_layBy {l : Launch} {X : XT} {d : Nat} {vs ls : List AV} {m : Mem} {Q : Option AV → Mem → Prop} (he : ent 2 vs = ls) (hn : ls.length = 2) (k : AW (GM l X d M_X11_layBy Q) 0 ls [] m) : Meth l X d M_X11_layBy vs m Q := Meth.enter ok_X11_layBy (by decide) rfl (ent_n he hn) (he ▸ k)
theorem E_X11_layBack {l : Launch} {X : XT} {d : Nat} {vs ls : List AV} {m : Mem} {Q : Option AV → Mem → Prop} (he : ent 2 vs = ls) (hn : ls.length = 2) (k : AW (GM l X d M_X11_layBack Q) 0 ls [] m) : Meth l X d M_X11_layBack vs m Q := Meth.enter ok_X11_layBack (by decide) rfl (ent_n he hn) (he ▸ k)
theorem E_X11_leave {l : Launch} {X : XT} {d : Nat} {vs ls : List AV} {m : Mem} {Q : Option AV → Mem → Prop} (he : ent 6 vs = ls) (hn : ls.length = 6) (k : AW (GM l X d M_X11_leave Q) 0 ls [] m) : Meth l X d M_X11_leave vs m Q := Meth.enter ok_X11_leave (by decide) rfl (ent_n he hn) (he ▸ k)
theorem E_X11_swap {l : Launch} {X : XT} {d : Nat} {vs ls : List AV} {m : Mem} {Q : Option AV → Mem → Prop} (he : ent 4 vs = ls) (hn : ls.length = 4) (k : AW (GM l X d M_X11_swap Q) 0 ls [] m) : Meth l X d M_X11_swap vs m Q := Meth.enter ok_X11_swap (by decide) rfl (ent_n he hn) (he ▸ k)
theorem E_X11_next_ {l : Launch} {X : XT} {d : Nat} {vs ls : List AV} {m : Mem} {Q : Option AV → Mem → Prop} (he : ent 6 vs = ls) (hn : ls.length = 6) (k : AW (GM l X d M_X11_next_ Q) 0 ls [] m) : Meth l X d M_X11_next_ vs m Q := Meth.enter ok_X11_next_ (by decide) rfl (ent_n he hn) (he ▸ k)
theorem E_X11_order {l : Launch} {X : XT} {d : Nat} {vs ls : List AV} {m : Mem} {Q : Option AV → Mem → Prop} (he : ent 7 vs = ls) (hn : ls.length = 7) (k : AW (GM l X d M_X11_order Q) 0 ls [] m) : Meth l X d M_X11_order vs m Q := Meth.enter ok_X11_order (by decide) rfl (ent_n he hn) (he ▸ k)
theorem E_X11_letter {l : Launch} {X : XT} {d : Nat} {vs ls : List AV} {m : Mem} {Q : Option AV → Mem → Prop} (he : ent 8 vs = ls) (hn : ls.length = 8) (k : AW (GM l X d M_X11_letter Q) 0 ls [] m) : Meth l X d M_X11_letter vs m Q := Meth.enter ok_X11_letter (by decide) rfl (ent_n he hn) (he ▸ k)
theorem E_X11_isHeard {l : Launch} {X : XT} {d : Nat} {vs ls : List AV} {m : Mem} {Q : Option AV → Mem → Prop} (he : ent 4 vs = ls) (hn : ls.length = 4) (k : AW (GM l X d M_X11_isHeard Q) 0 ls [] m) : Meth l X d M_X11_isHeard vs m Q := Meth.enter ok_X11_isHeard (by decide) rfl (ent_n he hn) (he ▸ k)
theorem E_X11_heard {l : Launch} {X : XT} {d : Nat} {vs ls : List AV} {m : Mem} {Q : Option AV → Mem → Prop} (he : ent 8 vs = ls) (hn : ls.length = 8) (k : AW (GM l X d M_X11_heard Q) 0 ls [] m) : Meth l X d M_X11_heard vs m Q := Meth.enter ok_X11_heard (by decide) rfl (ent_n he hn) (he ▸ k)
theorem E_X11_found {l : Launch} {X : XT} {d : Nat} {vs ls : List AV} {m : Mem} {Q : Option AV → Mem → Prop} (he : ent 10 vs = ls) (hn : ls.length = 10) (k : AW (GM l X d M_X11_found Q) 0 ls [] m) : Meth l X d M_X11_found vs m Q := Meth.enter ok_X11_found (by decide) rfl (ent_n he hn) (he ▸ k)
theorem E_X11_alikeTexts {l : Launch} {X : XT} {d : Nat} {vs ls : List AV} {m : Mem} {Q : Option AV → Mem → Prop} (he : ent 5 vs = ls) (hn : ls.length = 5) (k : AW (GM l X d M_X11_alikeTexts Q) 0 ls [] m) : Meth l X d M_X11_alikeTexts vs m Q := Meth.enter ok_X11_alikeTexts (by decide) rfl (ent_n he hn) (he ▸ k)
theorem E_X11_film {l : Launch} {X : XT} {d : Nat} {vs ls : List AV} {m : Mem} {Q : Option AV → Mem → Prop} (he : ent 4 vs = ls) (hn : ls.length = 4) (k : AW (GM l X d M_X11_film Q) 0 ls [] m) : Meth l X d M_X11_film vs m Q := Meth.enter ok_X11_film (by decide) rfl (ent_n he hn) (he ▸ k)
theorem E_X11_drawRow {l : Launch} {X : XT} {d : Nat} {vs ls : List AV} {m : Mem} {Q : Option AV → Mem → Prop} (he : ent 5 vs = ls) (hn : ls.length = 5) (k : AW (GM l X d M_X11_drawRow Q) 0 ls [] m) : Meth l X d M_X11_drawRow vs m Q := Meth.enter ok_X11_drawRow (by decide) rfl (ent_n he hn) (he ▸ k)
theorem E_X11_drawn {l : Launch} {X : XT} {d : Nat} {vs ls : List AV} {m : Mem} {Q : Option AV → Mem → Prop} (he : ent 3 vs = ls) (hn : ls.length = 3) (k : AW (GM l X d M_X11_drawn Q) 0 ls [] m) : Meth l X d M_X11_drawn vs m Q := Meth.enter ok_X11_drawn (by decide) rfl (ent_n he hn) (he ▸ k)
theorem E_X11_divisor {l : Launch} {X : XT} {d : Nat} {vs ls : List AV} {m : Mem} {Q : Option AV → Mem → Prop} (he : ent 10 vs = ls) (hn : ls.length = 10) (k : AW (GM l X d M_X11_divisor Q) 0 ls [] m) : Meth l X d M_X11_divisor vs m Q := Meth.enter ok_X11_divisor (by decide) rfl (ent_n he hn) (he ▸ k)
theorem E_X11_chance {l : Launch} {X : XT} {d : Nat} {vs ls : List AV} {m : Mem} {Q : Option AV → Mem → Prop} (he : ent 8 vs = ls) (hn : ls.length = 8) (k : AW (GM l X d M_X11_chance Q) 0 ls [] m) : Meth l X d M_X11_chance vs m Q := Meth.enter ok_X11_chance (by decide) rfl (ent_n he hn) (he ▸ k)
theorem E_X11_move {l : Launch} {X : XT} {d : Nat} {vs ls : List AV} {m : Mem} {Q : Option AV → Mem → Prop} (he : ent 6 vs = ls) (hn : ls.length = 6) (k : AW (GM l X d M_X11_move Q) 0 ls [] m) : Meth l X d M_X11_move vs m Q := Meth.enter ok_X11_move (by decide) rfl (ent_n he hn) (he ▸ k)
theorem E_X11_image {l : Launch} {X : XT} {d : Nat} {vs ls : List AV} {m : Mem} {Q : Option AV → Mem → Prop} (he : ent 1 vs = ls) (hn : ls.length = 1) (k : AW (GM l X d M_X11_image Q) 0 ls [] m) : Meth l X d M_X11_image vs m Q := Meth.enter ok_X11_image (by decide) rfl (ent_n he hn) (he ▸ k)
theorem E_X11_back {l : Launch} {X : XT} {d : Nat} {vs ls : List AV} {m : Mem} {Q : Option AV → Mem → Prop} (he : ent 1 vs = ls) (hn : ls.length = 1) (k : AW (GM l X d M_X11_back Q) 0 ls [] m) : Meth l X d M_X11_back vs m Q := Meth.enter ok_X11_back (by decide) rfl (ent_n he hn) (he ▸ k)
theorem E_X11_count {l : Launch} {X : XT} {d : Nat} {vs ls : List AV} {m : Mem} {Q : Option AV → Mem → Prop} (he : ent 2 vs = ls) (hn : ls.length = 2) (k : AW (GM l X d M_X11_count Q) 0 ls [] m) : Meth l X d M_X11_count vs m Q := Meth.enter ok_X11_count (by decide) rfl (ent_n he hn) (he ▸ k)
theorem E_X11_isSheet {l : Launch} {X : XT} {d : Nat} {vs ls : List AV} {m : Mem} {Q : Option AV → Mem → Prop} (he : ent 1 vs = ls) (hn : ls.length = 1) (k : AW (GM l X d M_X11_isSheet Q) 0 ls [] m) : Meth l X d M_X11_isSheet vs m Q := Meth.enter ok_X11_isSheet (by decide) rfl (ent_n he hn) (he ▸ k)
theorem E_X11_sheet {l : Launch} {X : XT} {d : Nat} {vs ls : List AV} {m : Mem} {Q : Option AV → Mem → Prop} (he : ent 5 vs = ls) (hn : ls.length = 5) (k : AW (GM l X d M_X11_sheet Q) 0 ls [] m) : Meth l X d M_X11_sheet vs m Q := Meth.enter ok_X11_sheet (by decide) rfl (ent_n he hn) (he ▸ k)
theorem E_X11_cell {l : Launch} {X : XT} {d : Nat} {vs ls : List AV} {m : Mem} {Q : Option AV → Mem → Prop} (he : ent 4 vs = ls) (hn : ls.length = 4) (k : AW (GM l X d M_X11_cell Q) 0 ls [] m) : Meth l X d M_X11_cell vs m Q := Meth.enter ok_X11_cell (by decide) rfl (ent_n he hn) (he ▸ k)
theorem E_X11_copy {l : Launch} {X : XT} {d : Nat} {vs ls : List AV} {m : Mem} {Q : Option AV → Mem → Prop} (he : ent 7 vs = ls) (hn : ls.length = 7) (k : AW (GM l X d M_X11_copy Q) 0 ls [] m) : Meth l X d M_X11_copy vs m Q := Meth.enter ok_X11_copy (by decide) rfl (ent_n he hn) (he ▸ k)
theorem E_X11_rules {l : Launch} {X : XT} {d : Nat} {vs ls : List AV} {m : Mem} {Q : Option AV → Mem → Prop} (he : ent 10 vs = ls) (hn : ls.length = 10) (k : AW (GM l X d M_X11_rules Q) 0 ls [] m) : Meth l X d M_X11_rules vs m Q := Meth.enter ok_X11_rules (by decide) rfl (ent_n he hn) (he ▸ k)
theorem E_X11_taken {l : Launch} {X : XT} {d : Nat} {vs ls : List AV} {m : Mem} {Q : Option AV → Mem → Prop} (he : ent 4 vs = ls) (hn : ls.length = 4) (k : AW (GM l X d M_X11_taken Q) 0 ls [] m) : Meth l X d M_X11_taken vs m Q := Meth.enter ok_X11_taken (by decide) rfl (ent_n he hn) (he ▸ k)
theorem E_X0_regard {l : Launch} {X : XT} {d : Nat} {vs ls : List AV} {m : Mem} {Q : Option AV → Mem → Prop} (he : ent 6 vs = ls) (hn : ls.length = 6) (k : AW (GM l X d M_X0_regard Q) 0 ls [] m) : Meth l X d M_X0_regard vs m Q := Meth.enter ok_X0_regard (by decide) rfl (ent_n he hn) (he ▸ k)
theorem E_X0_hard {l : Launch} {X : XT} {d : Nat} {vs ls : List AV} {m : Mem} {Q : Option AV → Mem → Prop} (he : ent 6 vs = ls) (hn : ls.length = 6) (k : AW (GM l X d M_X0_hard Q) 0 ls [] m) : Meth l X d M_X0_hard vs m Q := Meth.enter ok_X0_hard (by decide) rfl (ent_n he hn) (he ▸ k)
theorem E_X0_hardBy {l : Launch} {X : XT} {d : Nat} {vs ls : List AV} {m : Mem} {Q : Option AV → Mem → Prop} (he : ent 3 vs = ls) (hn : ls.length = 3) (k : AW (GM l X d M_X0_hardBy Q) 0 ls [] m) : Meth l X d M_X0_hardBy vs m Q := Meth.enter ok_X0_hardBy (by decide) rfl (ent_n he hn) (he ▸ k)
theorem E_X0_worth {l : Launch} {X : XT} {d : Nat} {vs ls : List AV} {m : Mem} {Q : Option AV → Mem → Prop} (he : ent 8 vs = ls) (hn : ls.length = 8) (k : AW (GM l X d M_X0_worth Q) 0 ls [] m) : Meth l X d M_X0_worth vs m Q := Meth.enter ok_X0_worth (by decide) rfl (ent_n he hn) (he ▸ k)
theorem E_X1_search {l : Launch} {X : XT} {d : Nat} {vs ls : List AV} {m : Mem} {Q : Option AV → Mem → Prop} (he : ent 3 vs = ls) (hn : ls.length = 3) (k : AW (GM l X d M_X1_search Q) 0 ls [] m) : Meth l X d M_X1_search vs m Q := Meth.enter ok_X1_search (by decide) rfl (ent_n he hn) (he ▸ k)
theorem E_X1_goOn {l : Launch} {X : XT} {d : Nat} {vs ls : List AV} {m : Mem} {Q : Option AV → Mem → Prop} (he : ent 7 vs = ls) (hn : ls.length = 7) (k : AW (GM l X d M_X1_goOn Q) 0 ls [] m) : Meth l X d M_X1_goOn vs m Q := Meth.enter ok_X1_goOn (by decide) rfl (ent_n he hn) (he ▸ k)
theorem E_X1_keepBetter {l : Launch} {X : XT} {d : Nat} {vs ls : List AV} {m : Mem} {Q : Option AV → Mem → Prop} (he : ent 3 vs = ls) (hn : ls.length = 3) (k : AW (GM l X d M_X1_keepBetter Q) 0 ls [] m) : Meth l X d M_X1_keepBetter vs m Q := Meth.enter ok_X1_keepBetter (by decide) rfl (ent_n he hn) (he ▸ k)
theorem E_X2_read {l : Launch} {X : XT} {d : Nat} {vs ls : List AV} {m : Mem} {Q : Option AV → Mem → Prop} (he : ent 4 vs = ls) (hn : ls.length = 4) (k : AW (GM l X d M_X2_read Q) 0 ls [] m) : Meth l X d M_X2_read vs m Q := Meth.enter ok_X2_read (by decide) rfl (ent_n he hn) (he ▸ k)
theorem E_X2_next {l : Launch} {X : XT} {d : Nat} {vs ls : List AV} {m : Mem} {Q : Option AV → Mem → Prop} (he : ent 1 vs = ls) (hn : ls.length = 1) (k : AW (GM l X d M_X2_next Q) 0 ls [] m) : Meth l X d M_X2_next vs m Q := Meth.enter ok_X2_next (by decide) rfl (ent_n he hn) (he ▸ k)
theorem E_X2_place {l : Launch} {X : XT} {d : Nat} {vs ls : List AV} {m : Mem} {Q : Option AV → Mem → Prop} (he : ent 1 vs = ls) (hn : ls.length = 1) (k : AW (GM l X d M_X2_place Q) 0 ls [] m) : Meth l X d M_X2_place vs m Q := Meth.enter ok_X2_place (by decide) rfl (ent_n he hn) (he ▸ k)
theorem E_X2_take {l : Launch} {X : XT} {d : Nat} {vs ls : List AV} {m : Mem} {Q : Option AV → Mem → Prop} (he : ent 2 vs = ls) (hn : ls.length = 2) (k : AW (GM l X d M_X2_take Q) 0 ls [] m) : Meth l X d M_X2_take vs m Q := Meth.enter ok_X2_take (by decide) rfl (ent_n he hn) (he ▸ k)
theorem E_X2_takeOpening {l : Launch} {X : XT} {d : Nat} {vs ls : List AV} {m : Mem} {Q : Option AV → Mem → Prop} (he : ent 1 vs = ls) (hn : ls.length = 1) (k : AW (GM l X d M_X2_takeOpening Q) 0 ls [] m) : Meth l X d M_X2_takeOpening vs m Q := Meth.enter ok_X2_takeOpening (by decide) rfl (ent_n he hn) (he ▸ k)
theorem E_X2_readPart {l : Launch} {X : XT} {d : Nat} {vs ls : List AV} {m : Mem} {Q : Option AV → Mem → Prop} (he : ent 3 vs = ls) (hn : ls.length = 3) (k : AW (GM l X d M_X2_readPart Q) 0 ls [] m) : Meth l X d M_X2_readPart vs m Q := Meth.enter ok_X2_readPart (by decide) rfl (ent_n he hn) (he ▸ k)
theorem E_X2_joined {l : Launch} {X : XT} {d : Nat} {vs ls : List AV} {m : Mem} {Q : Option AV → Mem → Prop} (he : ent 4 vs = ls) (hn : ls.length = 4) (k : AW (GM l X d M_X2_joined Q) 0 ls [] m) : Meth l X d M_X2_joined vs m Q := Meth.enter ok_X2_joined (by decide) rfl (ent_n he hn) (he ▸ k)
theorem E_X2_readE {l : Launch} {X : XT} {d : Nat} {vs ls : List AV} {m : Mem} {Q : Option AV → Mem → Prop} (he : ent 3 vs = ls) (hn : ls.length = 3) (k : AW (GM l X d M_X2_readE Q) 0 ls [] m) : Meth l X d M_X2_readE vs m Q := Meth.enter ok_X2_readE (by decide) rfl (ent_n he hn) (he ▸ k)
theorem E_X2_readAnd {l : Launch} {X : XT} {d : Nat} {vs ls : List AV} {m : Mem} {Q : Option AV → Mem → Prop} (he : ent 3 vs = ls) (hn : ls.length = 3) (k : AW (GM l X d M_X2_readAnd Q) 0 ls [] m) : Meth l X d M_X2_readAnd vs m Q := Meth.enter ok_X2_readAnd (by decide) rfl (ent_n he hn) (he ▸ k)
theorem E_X2_readNot {l : Launch} {X : XT} {d : Nat} {vs ls : List AV} {m : Mem} {Q : Option AV → Mem → Prop} (he : ent 1 vs = ls) (hn : ls.length = 1) (k : AW (GM l X d M_X2_readNot Q) 0 ls [] m) : Meth l X d M_X2_readNot vs m Q := Meth.enter ok_X2_readNot (by decide) rfl (ent_n he hn) (he ▸ k)
theorem E_X2_readComparison {l : Launch} {X : XT} {d : Nat} {vs ls : List AV} {m : Mem} {Q : Option AV → Mem → Prop} (he : ent 2 vs = ls) (hn : ls.length = 2) (k : AW (GM l X d M_X2_readComparison Q) 0 ls [] m) : Meth l X d M_X2_readComparison vs m Q := Meth.enter ok_X2_readComparison (by decide) rfl (ent_n he hn) (he ▸ k)
theorem E_X2_readSum {l : Launch} {X : XT} {d : Nat} {vs ls : List AV} {m : Mem} {Q : Option AV → Mem → Prop} (he : ent 4 vs = ls) (hn : ls.length = 4) (k : AW (GM l X d M_X2_readSum Q) 0 ls [] m) : Meth l X d M_X2_readSum vs m Q := Meth.enter ok_X2_readSum (by decide) rfl (ent_n he hn) (he ▸ k)
theorem E_X2_readTerm {l : Launch} {X : XT} {d : Nat} {vs ls : List AV} {m : Mem} {Q : Option AV → Mem → Prop} (he : ent 3 vs = ls) (hn : ls.length = 3) (k : AW (GM l X d M_X2_readTerm Q) 0 ls [] m) : Meth l X d M_X2_readTerm vs m Q := Meth.enter ok_X2_readTerm (by decide) rfl (ent_n he hn) (he ▸ k)
theorem E_X2_readOne {l : Launch} {X : XT} {d : Nat} {vs ls : List AV} {m : Mem} {Q : Option AV → Mem → Prop} (he : ent 1 vs = ls) (hn : ls.length = 1) (k : AW (GM l X d M_X2_readOne Q) 0 ls [] m) : Meth l X d M_X2_readOne vs m Q := Meth.enter ok_X2_readOne (by decide) rfl (ent_n he hn) (he ▸ k)
theorem E_X2_readValue {l : Launch} {X : XT} {d : Nat} {vs ls : List AV} {m : Mem} {Q : Option AV → Mem → Prop} (he : ent 3 vs = ls) (hn : ls.length = 3) (k : AW (GM l X d M_X2_readValue Q) 0 ls [] m) : Meth l X d M_X2_readValue vs m Q := Meth.enter ok_X2_readValue (by decide) rfl (ent_n he hn) (he ▸ k)
theorem E_X2_closed {l : Launch} {X : XT} {d : Nat} {vs ls : List AV} {m : Mem} {Q : Option AV → Mem → Prop} (he : ent 3 vs = ls) (hn : ls.length = 3) (k : AW (GM l X d M_X2_closed Q) 0 ls [] m) : Meth l X d M_X2_closed vs m Q := Meth.enter ok_X2_closed (by decide) rfl (ent_n he hn) (he ▸ k)
theorem E_X2_readToClosing {l : Launch} {X : XT} {d : Nat} {vs ls : List AV} {m : Mem} {Q : Option AV → Mem → Prop} (he : ent 2 vs = ls) (hn : ls.length = 2) (k : AW (GM l X d M_X2_readToClosing Q) 0 ls [] m) : Meth l X d M_X2_readToClosing vs m Q := Meth.enter ok_X2_readToClosing (by decide) rfl (ent_n he hn) (he ▸ k)
theorem E_X3_push {l : Launch} {X : XT} {d : Nat} {vs ls : List AV} {m : Mem} {Q : Option AV → Mem → Prop} (he : ent 2 vs = ls) (hn : ls.length = 2) (k : AW (GM l X d M_X3_push Q) 0 ls [] m) : Meth l X d M_X3_push vs m Q := Meth.enter ok_X3_push (by decide) rfl (ent_n he hn) (he ▸ k)
theorem E_X3_last {l : Launch} {X : XT} {d : Nat} {vs ls : List AV} {m : Mem} {Q : Option AV → Mem → Prop} (he : ent 1 vs = ls) (hn : ls.length = 1) (k : AW (GM l X d M_X3_last Q) 0 ls [] m) : Meth l X d M_X3_last vs m Q := Meth.enter ok_X3_last (by decide) rfl (ent_n he hn) (he ▸ k)
theorem E_X3_become {l : Launch} {X : XT} {d : Nat} {vs ls : List AV} {m : Mem} {Q : Option AV → Mem → Prop} (he : ent 2 vs = ls) (hn : ls.length = 2) (k : AW (GM l X d M_X3_become Q) 0 ls [] m) : Meth l X d M_X3_become vs m Q := Meth.enter ok_X3_become (by decide) rfl (ent_n he hn) (he ▸ k)
theorem E_X3_becomeWithout {l : Launch} {X : XT} {d : Nat} {vs ls : List AV} {m : Mem} {Q : Option AV → Mem → Prop} (he : ent 4 vs = ls) (hn : ls.length = 4) (k : AW (GM l X d M_X3_becomeWithout Q) 0 ls [] m) : Meth l X d M_X3_becomeWithout vs m Q := Meth.enter ok_X3_becomeWithout (by decide) rfl (ent_n he hn) (he ▸ k)
theorem E_X3_draw {l : Launch} {X : XT} {d : Nat} {vs ls : List AV} {m : Mem} {Q : Option AV → Mem → Prop} (he : ent 6 vs = ls) (hn : ls.length = 6) (k : AW (GM l X d M_X3_draw Q) 0 ls [] m) : Meth l X d M_X3_draw vs m Q := Meth.enter ok_X3_draw (by decide) rfl (ent_n he hn) (he ▸ k)
theorem E_X3_following {l : Launch} {X : XT} {d : Nat} {vs ls : List AV} {m : Mem} {Q : Option AV → Mem → Prop} (he : ent 1 vs = ls) (hn : ls.length = 1) (k : AW (GM l X d M_X3_following Q) 0 ls [] m) : Meth l X d M_X3_following vs m Q := Meth.enter ok_X3_following (by decide) rfl (ent_n he hn) (he ▸ k)
theorem E_X4_isTooLong {l : Launch} {X : XT} {d : Nat} {vs ls : List AV} {m : Mem} {Q : Option AV → Mem → Prop} (he : ent 1 vs = ls) (hn : ls.length = 1) (k : AW (GM l X d M_X4_isTooLong Q) 0 ls [] m) : Meth l X d M_X4_isTooLong vs m Q := Meth.enter ok_X4_isTooLong (by decide) rfl (ent_n he hn) (he ▸ k)
theorem E_X4_begin {l : Launch} {X : XT} {d : Nat} {vs ls : List AV} {m : Mem} {Q : Option AV → Mem → Prop} (he : ent 3 vs = ls) (hn : ls.length = 3) (k : AW (GM l X d M_X4_begin Q) 0 ls [] m) : Meth l X d M_X4_begin vs m Q := Meth.enter ok_X4_begin (by decide) rfl (ent_n he hn) (he ▸ k)
theorem E_X4_say {l : Launch} {X : XT} {d : Nat} {vs ls : List AV} {m : Mem} {Q : Option AV → Mem → Prop} (he : ent 4 vs = ls) (hn : ls.length = 4) (k : AW (GM l X d M_X4_say Q) 0 ls [] m) : Meth l X d M_X4_say vs m Q := Meth.enter ok_X4_say (by decide) rfl (ent_n he hn) (he ▸ k)
theorem E_X4_sayByOne {l : Launch} {X : XT} {d : Nat} {vs ls : List AV} {m : Mem} {Q : Option AV → Mem → Prop} (he : ent 4 vs = ls) (hn : ls.length = 4) (k : AW (GM l X d M_X4_sayByOne Q) 0 ls [] m) : Meth l X d M_X4_sayByOne vs m Q := Meth.enter ok_X4_sayByOne (by decide) rfl (ent_n he hn) (he ▸ k)
theorem E_X4_become {l : Launch} {X : XT} {d : Nat} {vs ls : List AV} {m : Mem} {Q : Option AV → Mem → Prop} (he : ent 2 vs = ls) (hn : ls.length = 2) (k : AW (GM l X d M_X4_become Q) 0 ls [] m) : Meth l X d M_X4_become vs m Q := Meth.enter ok_X4_become (by decide) rfl (ent_n he hn) (he ▸ k)
theorem E_X4_turnByRow {l : Launch} {X : XT} {d : Nat} {vs ls : List AV} {m : Mem} {Q : Option AV → Mem → Prop} (he : ent 4 vs = ls) (hn : ls.length = 4) (k : AW (GM l X d M_X4_turnByRow Q) 0 ls [] m) : Meth l X d M_X4_turnByRow vs m Q := Meth.enter ok_X4_turnByRow (by decide) rfl (ent_n he hn) (he ▸ k)
theorem E_X4_turn {l : Launch} {X : XT} {d : Nat} {vs ls : List AV} {m : Mem} {Q : Option AV → Mem → Prop} (he : ent 3 vs = ls) (hn : ls.length = 3) (k : AW (GM l X d M_X4_turn Q) 0 ls [] m) : Meth l X d M_X4_turn vs m Q := Meth.enter ok_X4_turn (by decide) rfl (ent_n he hn) (he ▸ k)
theorem E_X4_vowelCount {l : Launch} {X : XT} {d : Nat} {vs ls : List AV} {m : Mem} {Q : Option AV → Mem → Prop} (he : ent 4 vs = ls) (hn : ls.length = 4) (k : AW (GM l X d M_X4_vowelCount Q) 0 ls [] m) : Meth l X d M_X4_vowelCount vs m Q := Meth.enter ok_X4_vowelCount (by decide) rfl (ent_n he hn) (he ▸ k)
theorem E_X4_putAfterVowels {l : Launch} {X : XT} {d : Nat} {vs ls : List AV} {m : Mem} {Q : Option AV → Mem → Prop} (he : ent 6 vs = ls) (hn : ls.length = 6) (k : AW (GM l X d M_X4_putAfterVowels Q) 0 ls [] m) : Meth l X d M_X4_putAfterVowels vs m Q := Meth.enter ok_X4_putAfterVowels (by decide) rfl (ent_n he hn) (he ▸ k)
theorem E_X4_repeatFirst {l : Launch} {X : XT} {d : Nat} {vs ls : List AV} {m : Mem} {Q : Option AV → Mem → Prop} (he : ent 1 vs = ls) (hn : ls.length = 1) (k : AW (GM l X d M_X4_repeatFirst Q) 0 ls [] m) : Meth l X d M_X4_repeatFirst vs m Q := Meth.enter ok_X4_repeatFirst (by decide) rfl (ent_n he hn) (he ▸ k)
theorem E_X4_shift {l : Launch} {X : XT} {d : Nat} {vs ls : List AV} {m : Mem} {Q : Option AV → Mem → Prop} (he : ent 3 vs = ls) (hn : ls.length = 3) (k : AW (GM l X d M_X4_shift Q) 0 ls [] m) : Meth l X d M_X4_shift vs m Q := Meth.enter ok_X4_shift (by decide) rfl (ent_n he hn) (he ▸ k)
theorem E_X4_shiftVowels {l : Launch} {X : XT} {d : Nat} {vs ls : List AV} {m : Mem} {Q : Option AV → Mem → Prop} (he : ent 4 vs = ls) (hn : ls.length = 4) (k : AW (GM l X d M_X4_shiftVowels Q) 0 ls [] m) : Meth l X d M_X4_shiftVowels vs m Q := Meth.enter ok_X4_shiftVowels (by decide) rfl (ent_n he hn) (he ▸ k)
theorem E_X4_reverse {l : Launch} {X : XT} {d : Nat} {vs ls : List AV} {m : Mem} {Q : Option AV → Mem → Prop} (he : ent 4 vs = ls) (hn : ls.length = 4) (k : AW (GM l X d M_X4_reverse Q) 0 ls [] m) : Meth l X d M_X4_reverse vs m Q := Meth.enter ok_X4_reverse (by decide) rfl (ent_n he hn) (he ▸ k)
theorem E_X4_answer {l : Launch} {X : XT} {d : Nat} {vs ls : List AV} {m : Mem} {Q : Option AV → Mem → Prop} (he : ent 2 vs = ls) (hn : ls.length = 2) (k : AW (GM l X d M_X4_answer Q) 0 ls [] m) : Meth l X d M_X4_answer vs m Q := Meth.enter ok_X4_answer (by decide) rfl (ent_n he hn) (he ▸ k)
theorem E_X4_isLike {l : Launch} {X : XT} {d : Nat} {vs ls : List AV} {m : Mem} {Q : Option AV → Mem → Prop} (he : ent 3 vs = ls) (hn : ls.length = 3) (k : AW (GM l X d M_X4_isLike Q) 0 ls [] m) : Meth l X d M_X4_isLike vs m Q := Meth.enter ok_X4_isLike (by decide) rfl (ent_n he hn) (he ▸ k)
theorem E_X4_isWord {l : Launch} {X : XT} {d : Nat} {vs ls : List AV} {m : Mem} {Q : Option AV → Mem → Prop} (he : ent 4 vs = ls) (hn : ls.length = 4) (k : AW (GM l X d M_X4_isWord Q) 0 ls [] m) : Meth l X d M_X4_isWord vs m Q := Meth.enter ok_X4_isWord (by decide) rfl (ent_n he hn) (he ▸ k)
theorem E_X4_differences {l : Launch} {X : XT} {d : Nat} {vs ls : List AV} {m : Mem} {Q : Option AV → Mem → Prop} (he : ent 4 vs = ls) (hn : ls.length = 4) (k : AW (GM l X d M_X4_differences Q) 0 ls [] m) : Meth l X d M_X4_differences vs m Q := Meth.enter ok_X4_differences (by decide) rfl (ent_n he hn) (he ▸ k)
theorem E_X5_begin {l : Launch} {X : XT} {d : Nat} {vs ls : List AV} {m : Mem} {Q : Option AV → Mem → Prop} (he : ent 3 vs = ls) (hn : ls.length = 3) (k : AW (GM l X d M_X5_begin Q) 0 ls [] m) : Meth l X d M_X5_begin vs m Q := Meth.enter ok_X5_begin (by decide) rfl (ent_n he hn) (he ▸ k)
theorem E_X5_sayAll {l : Launch} {X : XT} {d : Nat} {vs ls : List AV} {m : Mem} {Q : Option AV → Mem → Prop} (he : ent 4 vs = ls) (hn : ls.length = 4) (k : AW (GM l X d M_X5_sayAll Q) 0 ls [] m) : Meth l X d M_X5_sayAll vs m Q := Meth.enter ok_X5_sayAll (by decide) rfl (ent_n he hn) (he ▸ k)
theorem E_X5_becomeTurned {l : Launch} {X : XT} {d : Nat} {vs ls : List AV} {m : Mem} {Q : Option AV → Mem → Prop} (he : ent 5 vs = ls) (hn : ls.length = 5) (k : AW (GM l X d M_X5_becomeTurned Q) 0 ls [] m) : Meth l X d M_X5_becomeTurned vs m Q := Meth.enter ok_X5_becomeTurned (by decide) rfl (ent_n he hn) (he ▸ k)
theorem E_X5_alike {l : Launch} {X : XT} {d : Nat} {vs ls : List AV} {m : Mem} {Q : Option AV → Mem → Prop} (he : ent 4 vs = ls) (hn : ls.length = 4) (k : AW (GM l X d M_X5_alike Q) 0 ls [] m) : Meth l X d M_X5_alike vs m Q := Meth.enter ok_X5_alike (by decide) rfl (ent_n he hn) (he ▸ k)
theorem E_X5_apart {l : Launch} {X : XT} {d : Nat} {vs ls : List AV} {m : Mem} {Q : Option AV → Mem → Prop} (he : ent 5 vs = ls) (hn : ls.length = 5) (k : AW (GM l X d M_X5_apart Q) 0 ls [] m) : Meth l X d M_X5_apart vs m Q := Meth.enter ok_X5_apart (by decide) rfl (ent_n he hn) (he ▸ k)
theorem E_X5_tooLong {l : Launch} {X : XT} {d : Nat} {vs ls : List AV} {m : Mem} {Q : Option AV → Mem → Prop} (he : ent 3 vs = ls) (hn : ls.length = 3) (k : AW (GM l X d M_X5_tooLong Q) 0 ls [] m) : Meth l X d M_X5_tooLong vs m Q := Meth.enter ok_X5_tooLong (by decide) rfl (ent_n he hn) (he ▸ k)
theorem E_X5_hasAnother {l : Launch} {X : XT} {d : Nat} {vs ls : List AV} {m : Mem} {Q : Option AV → Mem → Prop} (he : ent 4 vs = ls) (hn : ls.length = 4) (k : AW (GM l X d M_X5_hasAnother Q) 0 ls [] m) : Meth l X d M_X5_hasAnother vs m Q := Meth.enter ok_X5_hasAnother (by decide) rfl (ent_n he hn) (he ▸ k)
theorem E_X6_isMissing {l : Launch} {X : XT} {d : Nat} {vs ls : List AV} {m : Mem} {Q : Option AV → Mem → Prop} (he : ent 1 vs = ls) (hn : ls.length = 1) (k : AW (GM l X d M_X6_isMissing Q) 0 ls [] m) : Meth l X d M_X6_isMissing vs m Q := Meth.enter ok_X6_isMissing (by decide) rfl (ent_n he hn) (he ▸ k)
theorem E_X6_become {l : Launch} {X : XT} {d : Nat} {vs ls : List AV} {m : Mem} {Q : Option AV → Mem → Prop} (he : ent 4 vs = ls) (hn : ls.length = 4) (k : AW (GM l X d M_X6_become Q) 0 ls [] m) : Meth l X d M_X6_become vs m Q := Meth.enter ok_X6_become (by decide) rfl (ent_n he hn) (he ▸ k)
theorem E_X6_becomeSaying {l : Launch} {X : XT} {d : Nat} {vs ls : List AV} {m : Mem} {Q : Option AV → Mem → Prop} (he : ent 2 vs = ls) (hn : ls.length = 2) (k : AW (GM l X d M_X6_becomeSaying Q) 0 ls [] m) : Meth l X d M_X6_becomeSaying vs m Q := Meth.enter ok_X6_becomeSaying (by decide) rfl (ent_n he hn) (he ▸ k)
theorem E_X6_put {l : Launch} {X : XT} {d : Nat} {vs ls : List AV} {m : Mem} {Q : Option AV → Mem → Prop} (he : ent 3 vs = ls) (hn : ls.length = 3) (k : AW (GM l X d M_X6_put Q) 0 ls [] m) : Meth l X d M_X6_put vs m Q := Meth.enter ok_X6_put (by decide) rfl (ent_n he hn) (he ▸ k)
theorem E_X6_holds {l : Launch} {X : XT} {d : Nat} {vs ls : List AV} {m : Mem} {Q : Option AV → Mem → Prop} (he : ent 3 vs = ls) (hn : ls.length = 3) (k : AW (GM l X d M_X6_holds Q) 0 ls [] m) : Meth l X d M_X6_holds vs m Q := Meth.enter ok_X6_holds (by decide) rfl (ent_n he hn) (he ▸ k)
theorem E_X6_tellsWord {l : Launch} {X : XT} {d : Nat} {vs ls : List AV} {m : Mem} {Q : Option AV → Mem → Prop} (he : ent 2 vs = ls) (hn : ls.length = 2) (k : AW (GM l X d M_X6_tellsWord Q) 0 ls [] m) : Meth l X d M_X6_tellsWord vs m Q := Meth.enter ok_X6_tellsWord (by decide) rfl (ent_n he hn) (he ▸ k)
theorem E_X6_tells {l : Launch} {X : XT} {d : Nat} {vs ls : List AV} {m : Mem} {Q : Option AV → Mem → Prop} (he : ent 3 vs = ls) (hn : ls.length = 3) (k : AW (GM l X d M_X6_tells Q) 0 ls [] m) : Meth l X d M_X6_tells vs m Q := Meth.enter ok_X6_tells (by decide) rfl (ent_n he hn) (he ▸ k)
theorem E_X7_hasWord {l : Launch} {X : XT} {d : Nat} {vs ls : List AV} {m : Mem} {Q : Option AV → Mem → Prop} (he : ent 2 vs = ls) (hn : ls.length = 2) (k : AW (GM l X d M_X7_hasWord Q) 0 ls [] m) : Meth l X d M_X7_hasWord vs m Q := Meth.enter ok_X7_hasWord (by decide) rfl (ent_n he hn) (he ▸ k)
theorem E_X7_hasRule {l : Launch} {X : XT} {d : Nat} {vs ls : List AV} {m : Mem} {Q : Option AV → Mem → Prop} (he : ent 2 vs = ls) (hn : ls.length = 2) (k : AW (GM l X d M_X7_hasRule Q) 0 ls [] m) : Meth l X d M_X7_hasRule vs m Q := Meth.enter ok_X7_hasRule (by decide) rfl (ent_n he hn) (he ▸ k)
theorem E_X7_addWord {l : Launch} {X : XT} {d : Nat} {vs ls : List AV} {m : Mem} {Q : Option AV → Mem → Prop} (he : ent 3 vs = ls) (hn : ls.length = 3) (k : AW (GM l X d M_X7_addWord Q) 0 ls [] m) : Meth l X d M_X7_addWord vs m Q := Meth.enter ok_X7_addWord (by decide) rfl (ent_n he hn) (he ▸ k)
theorem E_X7_addRule {l : Launch} {X : XT} {d : Nat} {vs ls : List AV} {m : Mem} {Q : Option AV → Mem → Prop} (he : ent 4 vs = ls) (hn : ls.length = 4) (k : AW (GM l X d M_X7_addRule Q) 0 ls [] m) : Meth l X d M_X7_addRule vs m Q := Meth.enter ok_X7_addRule (by decide) rfl (ent_n he hn) (he ▸ k)
theorem E_X7_letterOf {l : Launch} {X : XT} {d : Nat} {vs ls : List AV} {m : Mem} {Q : Option AV → Mem → Prop} (he : ent 3 vs = ls) (hn : ls.length = 3) (k : AW (GM l X d M_X7_letterOf Q) 0 ls [] m) : Meth l X d M_X7_letterOf vs m Q := Meth.enter ok_X7_letterOf (by decide) rfl (ent_n he hn) (he ▸ k)
theorem E_X7_hasPart {l : Launch} {X : XT} {d : Nat} {vs ls : List AV} {m : Mem} {Q : Option AV → Mem → Prop} (he : ent 3 vs = ls) (hn : ls.length = 3) (k : AW (GM l X d M_X7_hasPart Q) 0 ls [] m) : Meth l X d M_X7_hasPart vs m Q := Meth.enter ok_X7_hasPart (by decide) rfl (ent_n he hn) (he ▸ k)
theorem E_X7_canHold {l : Launch} {X : XT} {d : Nat} {vs ls : List AV} {m : Mem} {Q : Option AV → Mem → Prop} (he : ent 3 vs = ls) (hn : ls.length = 3) (k : AW (GM l X d M_X7_canHold Q) 0 ls [] m) : Meth l X d M_X7_canHold vs m Q := Meth.enter ok_X7_canHold (by decide) rfl (ent_n he hn) (he ▸ k)
theorem E_X7_part {l : Launch} {X : XT} {d : Nat} {vs ls : List AV} {m : Mem} {Q : Option AV → Mem → Prop} (he : ent 3 vs = ls) (hn : ls.length = 3) (k : AW (GM l X d M_X7_part Q) 0 ls [] m) : Meth l X d M_X7_part vs m Q := Meth.enter ok_X7_part (by decide) rfl (ent_n he hn) (he ▸ k)
theorem E_X7_change {l : Launch} {X : XT} {d : Nat} {vs ls : List AV} {m : Mem} {Q : Option AV → Mem → Prop} (he : ent 4 vs = ls) (hn : ls.length = 4) (k : AW (GM l X d M_X7_change Q) 0 ls [] m) : Meth l X d M_X7_change vs m Q := Meth.enter ok_X7_change (by decide) rfl (ent_n he hn) (he ▸ k)
theorem E_X7_become {l : Launch} {X : XT} {d : Nat} {vs ls : List AV} {m : Mem} {Q : Option AV → Mem → Prop} (he : ent 3 vs = ls) (hn : ls.length = 3) (k : AW (GM l X d M_X7_become Q) 0 ls [] m) : Meth l X d M_X7_become vs m Q := Meth.enter ok_X7_become (by decide) rfl (ent_n he hn) (he ▸ k)
theorem E_X8_put {l : Launch} {X : XT} {d : Nat} {vs ls : List AV} {m : Mem} {Q : Option AV → Mem → Prop} (he : ent 2 vs = ls) (hn : ls.length = 2) (k : AW (GM l X d M_X8_put Q) 0 ls [] m) : Meth l X d M_X8_put vs m Q := Meth.enter ok_X8_put (by decide) rfl (ent_n he hn) (he ▸ k)
theorem E_X8_scan {l : Launch} {X : XT} {d : Nat} {vs ls : List AV} {m : Mem} {Q : Option AV → Mem → Prop} (he : ent 4 vs = ls) (hn : ls.length = 4) (k : AW (GM l X d M_X8_scan Q) 0 ls [] m) : Meth l X d M_X8_scan vs m Q := Meth.enter ok_X8_scan (by decide) rfl (ent_n he hn) (he ▸ k)
theorem E_X8_afterBlanks {l : Launch} {X : XT} {d : Nat} {vs ls : List AV} {m : Mem} {Q : Option AV → Mem → Prop} (he : ent 3 vs = ls) (hn : ls.length = 3) (k : AW (GM l X d M_X8_afterBlanks Q) 0 ls [] m) : Meth l X d M_X8_afterBlanks vs m Q := Meth.enter ok_X8_afterBlanks (by decide) rfl (ent_n he hn) (he ▸ k)
theorem E_X8_scanToken {l : Launch} {X : XT} {d : Nat} {vs ls : List AV} {m : Mem} {Q : Option AV → Mem → Prop} (he : ent 3 vs = ls) (hn : ls.length = 3) (k : AW (GM l X d M_X8_scanToken Q) 0 ls [] m) : Meth l X d M_X8_scanToken vs m Q := Meth.enter ok_X8_scanToken (by decide) rfl (ent_n he hn) (he ▸ k)
theorem E_X8_scanWord {l : Launch} {X : XT} {d : Nat} {vs ls : List AV} {m : Mem} {Q : Option AV → Mem → Prop} (he : ent 4 vs = ls) (hn : ls.length = 4) (k : AW (GM l X d M_X8_scanWord Q) 0 ls [] m) : Meth l X d M_X8_scanWord vs m Q := Meth.enter ok_X8_scanWord (by decide) rfl (ent_n he hn) (he ▸ k)
theorem E_X8_scanNumber {l : Launch} {X : XT} {d : Nat} {vs ls : List AV} {m : Mem} {Q : Option AV → Mem → Prop} (he : ent 4 vs = ls) (hn : ls.length = 4) (k : AW (GM l X d M_X8_scanNumber Q) 0 ls [] m) : Meth l X d M_X8_scanNumber vs m Q := Meth.enter ok_X8_scanNumber (by decide) rfl (ent_n he hn) (he ▸ k)
theorem E_X8_addToken {l : Launch} {X : XT} {d : Nat} {vs ls : List AV} {m : Mem} {Q : Option AV → Mem → Prop} (he : ent 5 vs = ls) (hn : ls.length = 5) (k : AW (GM l X d M_X8_addToken Q) 0 ls [] m) : Meth l X d M_X8_addToken vs m Q := Meth.enter ok_X8_addToken (by decide) rfl (ent_n he hn) (he ▸ k)
theorem E_X8_isSpelled {l : Launch} {X : XT} {d : Nat} {vs ls : List AV} {m : Mem} {Q : Option AV → Mem → Prop} (he : ent 5 vs = ls) (hn : ls.length = 5) (k : AW (GM l X d M_X8_isSpelled Q) 0 ls [] m) : Meth l X d M_X8_isSpelled vs m Q := Meth.enter ok_X8_isSpelled (by decide) rfl (ent_n he hn) (he ▸ k)
theorem E_X8_spelling {l : Launch} {X : XT} {d : Nat} {vs ls : List AV} {m : Mem} {Q : Option AV → Mem → Prop} (he : ent 1 vs = ls) (hn : ls.length = 1) (k : AW (GM l X d M_X8_spelling Q) 0 ls [] m) : Meth l X d M_X8_spelling vs m Q := Meth.enter ok_X8_spelling (by decide) rfl (ent_n he hn) (he ▸ k)
theorem E_X9_empty {l : Launch} {X : XT} {d : Nat} {vs ls : List AV} {m : Mem} {Q : Option AV → Mem → Prop} (he : ent 1 vs = ls) (hn : ls.length = 1) (k : AW (GM l X d M_X9_empty Q) 0 ls [] m) : Meth l X d M_X9_empty vs m Q := Meth.enter ok_X9_empty (by decide) rfl (ent_n he hn) (he ▸ k)
theorem E_X9_add {l : Launch} {X : XT} {d : Nat} {vs ls : List AV} {m : Mem} {Q : Option AV → Mem → Prop} (he : ent 4 vs = ls) (hn : ls.length = 4) (k : AW (GM l X d M_X9_add Q) 0 ls [] m) : Meth l X d M_X9_add vs m Q := Meth.enter ok_X9_add (by decide) rfl (ent_n he hn) (he ▸ k)
theorem E_X9_endPart {l : Launch} {X : XT} {d : Nat} {vs ls : List AV} {m : Mem} {Q : Option AV → Mem → Prop} (he : ent 2 vs = ls) (hn : ls.length = 2) (k : AW (GM l X d M_X9_endPart Q) 0 ls [] m) : Meth l X d M_X9_endPart vs m Q := Meth.enter ok_X9_endPart (by decide) rfl (ent_n he hn) (he ▸ k)
theorem E_X9_tells {l : Launch} {X : XT} {d : Nat} {vs ls : List AV} {m : Mem} {Q : Option AV → Mem → Prop} (he : ent 5 vs = ls) (hn : ls.length = 5) (k : AW (GM l X d M_X9_tells Q) 0 ls [] m) : Meth l X d M_X9_tells vs m Q := Meth.enter ok_X9_tells (by decide) rfl (ent_n he hn) (he ▸ k)
theorem E_X9_worked {l : Launch} {X : XT} {d : Nat} {vs ls : List AV} {m : Mem} {Q : Option AV → Mem → Prop} (he : ent 5 vs = ls) (hn : ls.length = 5) (k : AW (GM l X d M_X9_worked Q) 0 ls [] m) : Meth l X d M_X9_worked vs m Q := Meth.enter ok_X9_worked (by decide) rfl (ent_n he hn) (he ▸ k)
end
section
-- ===== numbers, bits, letters: pure =====
section
variable {G : GG} {pc : Nat}
theorem AW.fg {ls st : List AV} {m : Mem} (k : Nat) (h : AW G pc (ls.set k vU) st m) : AW G pc ls st m := by
  intro hl hol hos p e s mid args below meth co C H locs la hPw hS hL
  refine h (by rw [List.length_set]; exact hl) (okl_set hol okv_U) hos p e s mid args below meth co C H locs la hPw hS ?_
  refine ⟨hL.1.trans (by rw [List.length_set]), hL.2.1, fun j v hj hu => ?_⟩
  rw [List.getElem?_set] at hj
  by_cases e : k = j
  · subst e
    rw [if_pos rfl] at hj
    split at hj
    · cases hj; cases hu
    · cases hj
  · rw [if_neg e] at hj
    exact hL.2.2 j v hj hu
theorem AW.loop {σ : Type} (n : Nat) (L : Nat → σ → List AV) (M : Nat → σ → Mem → Prop) (hs : ∀ (i : Nat) (s : σ) (m : Mem), i ≤ n → M i s m → (∀ (s' : σ) (m' : Mem), i < n → M (i + 1) s' m' → AW G pc (L (i + 1) s') [] m') → AW G pc (L i s) [] m) : ∀ (i : Nat) (s : σ) (m : Mem), i ≤ n → M i s m → AW G pc (L i s) [] m := by
  have key : ∀ (k i : Nat) (s : σ) (m : Mem), i + k = n → M i s m → AW G pc (L i s) [] m := by
    intro k
    induction k with
    | zero => intro i s m hi hM; exact hs i s m (by omega) hM (fun s' m' h => absurd h (by omega))
    | succ k ih => intro i s m hi hM; exact hs i s m (by omega) hM (fun s' m' _ hM' => ih (i + 1) s' m' (by omega) hM')
  intro i s m hi hM
  exact key (n - i) i s m (by omega) hM
theorem AW.wf {σ : Type} (μ : σ → Nat) (L : σ → List AV) (M : σ → Mem → Prop) (hs : ∀ (s : σ) (m : Mem), M s m → (∀ (s' : σ) (m' : Mem), μ s' < μ s → M s' m' → AW G pc (L s') [] m') → AW G pc (L s) [] m) : ∀ (s : σ) (m : Mem), M s m → AW G pc (L s) [] m := by
  have key : ∀ (k : Nat) (s : σ) (m : Mem), μ s < k → M s m → AW G pc (L s) [] m := by
    intro k
    induction k with
    | zero => intro s m h; exact absurd h (Nat.not_lt_zero _)
    | succ k ih => intro s m h hM; exact hs s m hM (fun s' m' h' hM' => ih s' m' (by omega) hM')
  intro s m hM
  exact key (μ s + 1) s m (Nat.lt_succ_self _) hM
end
theorem nI_m1 {n : Nat} (h : n < 2 ^ 31) : ¬ nI n = -1 := by
  intro e
  have h1 := congrArg Int32.toInt e
  rw [nI_toInt h] at h1
  have : (-1 : Int32).toInt = -1 := rfl
  omega
theorem pk_rem' {a : Nat} (ha : a < 2 ^ 31) : nI a - nI a / 26 * 26 = nI (a % 26) := pk_rem (d := 26) ha (by decide) (by decide)
theorem rem26 {a b : Nat} (ha : a < 2 ^ 30) (hb : b < 2 ^ 30) : nI a + nI b - (nI a + nI b) / 26 * 26 = nI ((a + b) % 26) := by
  rw [nI_add]
  exact pk_rem' (by omega)
theorem sh_k : ∀ c, c < 32 → (((nI c).toUInt32 &&& Int32.toUInt32 31).toBitVec % 32).toNat = c := by decide +kernel
theorem vow_u {V c : Nat} (hV : V < 2 ^ 31) (hc : c < 32) : ((nI V).toUInt32 >>> ((nI c).toUInt32 &&& Int32.toUInt32 31)).toInt32 &&& 1 = nI (if V.testBit c then 1 else 0) := by
  rw [pk_ushrN (by omega) (nI c) c (sh_k c hc), pk_andN (Nat.lt_of_le_of_lt (Nat.div_le_self _ _) (by omega)) 1 (by decide), Nat.testBit_eq_decide_div_mod_eq]
  have : V / 2 ^ c % 2 = 0 ∨ V / 2 ^ c % 2 = 1 := by omega
  rcases this with h | h <;> simp [h]
theorem sh_k2 : ∀ c, c < 32 → (((nI c) &&& 31).toBitVec.smod 32).toNat = c := by decide +kernel
theorem vow_s {V c : Nat} (hV : V < 2 ^ 31) (hc : c < 32) : (nI V >>> (nI c &&& 31)) &&& 1 = nI (if V.testBit c then 1 else 0) := by
  rw [pk_shrN hV (nI c &&& 31) c (sh_k2 c hc), pk_andN (Nat.lt_of_le_of_lt (Nat.div_le_self _ _) (by omega)) 1 (by decide), Nat.testBit_eq_decide_div_mod_eq]
  have : V / 2 ^ c % 2 = 0 ∨ V / 2 ^ c % 2 = 1 := by omega
  rcases this with h | h <;> simp [h]
/-- a row of ints holds these numbers -/
def RLn (g : Nat → Int32) (xs : List Nat) : Prop := ∀ (k x : Nat), xs[k]? = some x → g k = nI x
def GL (xs : List Nat) : Prop := ∀ x ∈ xs, x < 26
/-- a Saying: too long, or these letters -/
def RY (m : Mem) (h : Nat) (o : Option (List Nat)) : Prop := match o with
  | none => m h 1 = -1
  | some xs => m h 1 = nI xs.length ∧ RLn (m (h + 1)) xs
def vcnt (V : Nat) (xs : List Nat) : Nat := xs.countP (fun c => V.testBit c)
def insA (V l : Nat) (xs : List Nat) : List Nat := xs.flatMap (fun c => if V.testBit c then [c, l] else [c])
def shf (n : Nat) (xs : List Nat) : List Nat := xs.map (fun c => (c + n) % 26)
def shV (V n : Nat) (xs : List Nat) : List Nat := xs.map (fun c => if V.testBit c then (c + n) % 26 else c)
def lim (xs : List Nat) : Option (List Nat) := if xs.length ≤ 40 then some xs else none
def turnL (V k l n : Nat) (xs : List Nat) : Option (List Nat) := match k with
  | 1 => lim (insA V l xs)
  | 2 => some (shf n xs)
  | 3 => lim (insA V l xs ++ (insA V l xs).take 1)
  | 4 => some (shV V n xs)
  | 5 => some xs.reverse
  | _ => some xs
theorem vcnt_take {V i x : Nat} {xs : List Nat} (h : xs[i]? = some x) : vcnt V (xs.take (i + 1)) = vcnt V (xs.take i) + (if V.testBit x then 1 else 0) := by
  unfold vcnt
  rw [List.take_add_one, h, List.countP_append]
  by_cases hx : V.testBit x = true <;> simp [hx]
theorem vcnt_le {V : Nat} (xs : List Nat) : vcnt V xs ≤ xs.length := List.countP_le_length
theorem insA_len {V l : Nat} (xs : List Nat) : (insA V l xs).length = xs.length + vcnt V xs := by
  unfold insA vcnt
  induction xs with
  | nil => rfl
  | cons a r ih =>
    rw [List.flatMap_cons, List.length_append, ih, List.countP_cons]
    by_cases h : V.testBit a = true <;> simp [h] <;> omega
theorem insA_gl {V l : Nat} {xs : List Nat} (h : GL xs) (hl : l < 26) : GL (insA V l xs) := by
  intro x hx
  obtain ⟨c, hc, hx⟩ := List.mem_flatMap.mp hx
  by_cases hv : V.testBit c = true
  · simp only [hv, if_true, List.mem_cons, List.not_mem_nil, or_false] at hx
    rcases hx with rfl | rfl
    · exact h _ hc
    · exact hl
  · simp only [hv, List.mem_singleton] at hx
    simp at hx
    rw [hx]
    exact h _ hc
theorem shf_gl {n : Nat} {xs : List Nat} : GL (shf n xs) := by
  intro x hx
  obtain ⟨c, -, rfl⟩ := List.mem_map.mp hx
  exact Nat.mod_lt _ (by decide)
theorem shV_gl {V n : Nat} {xs : List Nat} (h : GL xs) : GL (shV V n xs) := by
  intro x hx
  obtain ⟨c, hc, rfl⟩ := List.mem_map.mp hx
  split
  · exact Nat.mod_lt _ (by decide)
  · exact h _ hc
theorem turnL_gl {V k l n : Nat} {xs ys : List Nat} (h : GL xs) (hl : l < 26) (e : turnL V k l n xs = some ys) : GL ys := by
  unfold turnL at e
  split at e
  · unfold lim at e
    split at e
    · cases e; exact insA_gl h hl
    · cases e
  · cases e; exact shf_gl
  · unfold lim at e
    split at e
    · cases e
      intro x hx
      rcases List.mem_append.mp hx with q | q
      · exact insA_gl h hl x q
      · exact insA_gl h hl x (List.mem_of_mem_take q)
    · cases e
  · cases e; exact shV_gl h
  · cases e; intro x hx; exact h x (List.mem_reverse.mp hx)
  · cases e; exact h
theorem turnL_len {V k l n : Nat} {xs ys : List Nat} (h : xs.length ≤ 40) (e : turnL V k l n xs = some ys) : xs.length ≤ ys.length ∧ ys.length ≤ 40 := by
  unfold turnL at e
  split at e
  · unfold lim at e
    split at e
    · cases e
      rename_i h2
      rw [insA_len] at h2
      constructor
      · rw [insA_len]; omega
      · rw [insA_len]; omega
    · cases e
  · cases e; simp [shf, h]
  · unfold lim at e
    split at e
    · cases e
      rename_i h2
      constructor
      · rw [List.length_append, insA_len]; omega
      · exact h2
    · cases e
  · cases e; simp [shV, h]
  · cases e; simp [h]
  · cases e; exact ⟨Nat.le_refl _, h⟩
end
section
section
variable {l : Launch} {X : XT} {d : Nat} {μ0 μ : MI} {Q0 Q : Option AV → Mem → Prop} {pc np tg idx n : Nat} {lit : Int32} {ls st As rest : List AV} {m : Mem}
theorem AW.V {t h : Nat} (hk : CVok μ0.2.2.2.2.1 idx μ n) (hM : Meth l X d μ (vR t h :: As) m Q) (hf : μ0.2.2.2.2.2.lookup pc = some (.invokevirtual idx, np, tg, lit)) (hs : splV n st = some (As, t, h, rest)) (ht : (Nat.ble 1 t && Nat.ble t 12) = true) (ht2 : Rn (t - 1) = μ.1.cls) (h41 : Nat.ble μ.2.2.1 41 = true) (hr8 : Nat.ble (rest.map catA).sum 8 = true)
    (kk : ∀ (r : Option AV) (m' : Mem), Q r m' → AW (GM l X (d + 1) μ0 Q0) np ls (r.toList ++ rest) m') : AW (GM l X (d + 1) μ0 Q0) pc ls st m := by
  rw [Bool.and_eq_true] at ht
  exact AW.callV (G := GM l X (d + 1) μ0 Q0) hf hs hk ⟨Nat.le_of_ble_eq_true ht.1, Nat.lt_succ_of_le (Nat.le_of_ble_eq_true ht.2), ht2⟩ (rR (Nat.le_of_ble_eq_true h41)) (Nat.le_of_ble_eq_true hr8) hM kk
theorem AW.S (hk : CSok μ0.2.2.2.2.1 idx μ n) (hM : Meth l X d μ As m Q) (hf : μ0.2.2.2.2.2.lookup pc = some (.invokestatic idx, np, tg, lit)) (hs : splS n st = some (As, rest)) (h41 : Nat.ble μ.2.2.1 41 = true) (hr8 : Nat.ble (rest.map catA).sum 8 = true)
    (kk : ∀ (r : Option AV) (m' : Mem), Q r m' → AW (GM l X (d + 1) μ0 Q0) np ls (r.toList ++ rest) m') : AW (GM l X (d + 1) μ0 Q0) pc ls st m :=
  AW.callS (G := GM l X (d + 1) μ0 Q0) hf hs hk (rR (Nat.le_of_ble_eq_true h41)) (Nat.le_of_ble_eq_true hr8) hM kk
theorem AW.N {host : String} (hk : CNok μ0.2.2.2.2.1 idx μ n host) (hM : Meth l X d μ As m Q) (hf : μ0.2.2.2.2.2.lookup pc = some (.invokestatic idx, np, tg, lit)) (hs : splS n st = some (As, rest)) (h41 : Nat.ble μ.2.2.1 41 = true) (hr8 : Nat.ble (rest.map catA).sum 8 = true)
    (kk : ∀ (r : Option AV) (m' : Mem), Q r m' → AW (GM l X (d + 1) μ0 Q0) np ls (r.toList ++ rest) m') : AW (GM l X (d + 1) μ0 Q0) pc ls st m :=
  AW.callN (G := GM l X (d + 1) μ0 Q0) hf hs hk (rR (Nat.le_of_ble_eq_true h41)) (Nat.le_of_ble_eq_true hr8) hM kk
theorem AW.cpy {t0 h0 t1 h1 : Nat} {sp dp n : Int32} (hk : GoodIn GT [.methodLink (Rn μ0.2.2.2.2.1) idx arraycopyName, .native arraycopyName, .static arraycopyName, .initialized "java/lang/System"]) (hf : μ0.2.2.2.2.2.lookup pc = some (.invokestatic idx, np, tg, lit)) (hr8 : Nat.ble (rest.map catA).sum 8 = true)
    (ht0 : (Nat.ble 1000 t0 && Nat.blt t0 4000) = true) (ht1 : (Nat.ble 1000 t1 && Nat.blt t1 4000) = true) (hs : ¬ sp < 0) (hd0 : ¬ dp < 0) (hn0 : ¬ n < 0) (h4 : sp.toNatClampNeg + n.toNatClampNeg ≤ t0 - 1000) (h5 : dp.toNatClampNeg + n.toNatClampNeg ≤ t1 - 1000)
    (k : AW (GM l X (d + 1) μ0 Q0) np ls rest (mSr m h1 (va_cpy (m h0) (m h1) sp.toNatClampNeg dp.toNatClampNeg n.toNatClampNeg))) : AW (GM l X (d + 1) μ0 Q0) pc ls (vI n :: vI dp :: vR t1 h1 :: vI sp :: vR t0 h0 :: rest) m := by
  rw [Bool.and_eq_true] at ht0 ht1
  exact AW.acopy (G := GM l X (d + 1) μ0 Q0) hf hk rR1 (Nat.le_of_ble_eq_true hr8) ⟨Nat.le_of_ble_eq_true ht0.1, by simpa using ht0.2⟩ ⟨Nat.le_of_ble_eq_true ht1.1, by simpa using ht1.2⟩ hs hd0 hn0 h4 h5 k
end
end
section
-- ===== what the system is, as numbers =====
/-- 0: vowels, words, rules, row's size, law; 1 sizes, 2 weights, 3 kinds, 4 letters, 5 numbers of rules, 6 the row, 10 + w letters of a word -/
abbrev Sg : Type := Nat → Nat → Nat
def sU (σ : Sg) (a k v : Nat) : Sg := fun a' k' => if a' = a ∧ k' = k then v else σ a' k'
def wl (σ : Sg) (w : Nat) : List Nat := (List.range (σ 1 w)).map (σ (10 + w))
def rowL (σ : Sg) : List Nat := (List.range (σ 0 3)).map (σ 6)
def RepS (m : Mem) (S : Nat) (σ : Sg) : Prop :=
  m S 0 = nI (σ 0 0) ∧ m S 4 = nI (σ 0 1) ∧ m S 8 = nI (σ 0 2) ∧ m S 10 = nI (σ 0 4) ∧
  (∀ w, w < σ 0 1 → m (S + 10) w = nI (σ 1 w) ∧ m (S + 11) w = nI (σ 2 w) ∧ ∀ k, k < σ 1 w → m (S + 2 + w) k = nI (σ (10 + w) k)) ∧
  (∀ r, r < σ 0 2 → m (S + 12) r = nI (σ 3 r) ∧ m (S + 13) r = nI (σ 4 r) ∧ m (S + 14) r = nI (σ 5 r)) ∧
  m (S + 15) 1 = nI (σ 0 3) ∧ ∀ i, i < σ 0 3 → m (S + 16) i = nI (σ 6 i)
def WF (σ : Sg) : Prop :=
  σ 0 0 < 2 ^ 26 ∧ σ 0 1 ≤ 8 ∧ σ 0 2 ≤ 6 ∧ σ 0 3 ≤ 8 ∧ σ 0 4 < 6 ∧
  (∀ w, w < σ 0 1 → 1 ≤ σ 1 w ∧ σ 1 w ≤ 10 ∧ σ 2 w ≤ 99 ∧ ∀ k, k < σ 1 w → σ (10 + w) k < 26) ∧
  (∀ r, r < σ 0 2 → σ 3 r < 6 ∧ σ 4 r < 26 ∧ σ 5 r < 26) ∧ ∀ i, i < σ 0 3 → σ 6 i < σ 0 2
theorem RepS.fr {m m' : Mem} {S : Nat} {σ : Sg} (h : RepS m S σ) (hw : σ 0 1 ≤ 8) (hf : ∀ a, S ≤ a → a ≤ S + 16 → m' a = m a) : RepS m' S σ := by
  obtain ⟨h1, h2, h3, h4, h5, h6, h7, h8⟩ := h
  refine ⟨?_, ?_, ?_, ?_, fun w hw1 => ?_, fun r hr => ?_, ?_, fun i hi => ?_⟩
  · rw [hf S (by omega) (by omega)]; exact h1
  · rw [hf S (by omega) (by omega)]; exact h2
  · rw [hf S (by omega) (by omega)]; exact h3
  · rw [hf S (by omega) (by omega)]; exact h4
  · rw [hf (S + 10) (by omega) (by omega), hf (S + 11) (by omega) (by omega), hf (S + 2 + w) (by omega) (by omega)]; exact h5 w hw1
  · rw [hf (S + 12) (by omega) (by omega), hf (S + 13) (by omega) (by omega), hf (S + 14) (by omega) (by omega)]; exact h6 r hr
  · rw [hf (S + 15) (by omega) (by omega)]; exact h7
  · rw [hf (S + 16) (by omega) (by omega)]; exact h8 i hi
def turnS (σ : Sg) (r : Nat) (o : Option (List Nat)) : Option (List Nat) := o.bind (turnL (σ 0 0) (σ 3 r) (σ 4 r) (σ 5 r))
def sayR (σ : Sg) (rw : List Nat) (o : Option (List Nat)) : Option (List Nat) := rw.foldl (fun o r => turnS σ r o) o
def saidS (σ : Sg) (rw : List Nat) (w : Nat) : Option (List Nat) := sayR σ rw (some (wl σ w))
def WFo (o : Option (List Nat)) : Prop := ∀ xs, o = some xs → GL xs ∧ 1 ≤ xs.length ∧ xs.length ≤ 40
def WFr (σ : Sg) (rw : List Nat) : Prop := rw.length ≤ 8 ∧ ∀ r ∈ rw, r < σ 0 2
/-- a Row holds these rules -/
def RepR (m : Mem) (h : Nat) (rw : List Nat) : Prop := m h 1 = nI rw.length ∧ RLn (m (h + 1)) rw
theorem wl_len {σ : Sg} {w : Nat} : (wl σ w).length = σ 1 w := by simp [wl]
theorem wl_get {σ : Sg} {w k x : Nat} (h : (wl σ w)[k]? = some x) : k < σ 1 w ∧ x = σ (10 + w) k := by
  have hk : k < σ 1 w := by
    have := (List.getElem?_eq_some_iff.mp h).1
    rwa [wl_len] at this
  simp [wl, List.getElem?_range hk] at h
  exact ⟨hk, h.symm⟩
theorem wl_at {σ : Sg} {w k : Nat} (hk : k < σ 1 w) : (wl σ w)[k]? = some (σ (10 + w) k) := by simp [wl, List.getElem?_range hk]
theorem wl_wf {σ : Sg} (h : WF σ) {w : Nat} (hw : w < σ 0 1) : WFo (some (wl σ w)) := by
  intro xs e
  cases e
  obtain ⟨-, -, -, -, -, h6, -⟩ := h
  obtain ⟨a1, a2, -, a4⟩ := h6 w hw
  refine ⟨fun x hx => ?_, by rw [wl_len]; exact a1, by rw [wl_len]; omega⟩
  obtain ⟨k, hk⟩ := List.getElem?_of_mem hx
  obtain ⟨h1, rfl⟩ := wl_get hk
  exact a4 k h1
theorem turnS_wf {σ : Sg} (h : WF σ) {r : Nat} (hr : r < σ 0 2) {o : Option (List Nat)} (ho : WFo o) : WFo (turnS σ r o) := by
  intro ys e
  unfold turnS at e
  cases o with
  | none => cases e
  | some xs =>
    obtain ⟨g1, g2, g3⟩ := ho xs rfl
    have e : turnL (σ 0 0) (σ 3 r) (σ 4 r) (σ 5 r) xs = some ys := e
    obtain ⟨-, -, -, -, -, -, h7, -⟩ := h
    obtain ⟨q1, q2⟩ := turnL_len g3 e
    exact ⟨turnL_gl g1 (h7 r hr).2.1 e, by omega, q2⟩
theorem sayR_wf {σ : Sg} (h : WF σ) (rw : List Nat) (hr : ∀ r ∈ rw, r < σ 0 2) : ∀ {o : Option (List Nat)}, WFo o → WFo (sayR σ rw o) := by
  induction rw with
  | nil => intro o ho; exact ho
  | cons a r ih =>
    intro o ho
    exact ih (fun q hq => hr q (List.mem_cons_of_mem _ hq)) (turnS_wf h (hr a List.mem_cons_self) ho)
theorem sayR_take {σ : Sg} {rw : List Nat} {i r : Nat} {o : Option (List Nat)} (h : rw[i]? = some r) : sayR σ (rw.take (i + 1)) o = turnS σ r (sayR σ (rw.take i) o) := by
  unfold sayR
  rw [List.take_add_one, h, List.foldl_append]
  rfl
theorem rowL_len {σ : Sg} : (rowL σ).length = σ 0 3 := by simp [rowL]
theorem rowL_wf {σ : Sg} (h : WF σ) : WFr σ (rowL σ) := by
  obtain ⟨-, -, -, h4, -, -, -, h8⟩ := h
  refine ⟨by rw [rowL_len]; exact h4, fun r hr => ?_⟩
  obtain ⟨i, hi, rfl⟩ := List.mem_map.mp hr
  exact h8 i (List.mem_range.mp hi)
theorem RepS.row {m : Mem} {S : Nat} {σ : Sg} (h : RepS m S σ) : RepR m (S + 15) (rowL σ) := by
  obtain ⟨-, -, -, -, -, -, h7, h8⟩ := h
  refine ⟨by rw [rowL_len]; exact h7, fun k x hk => ?_⟩
  have hlt : k < σ 0 3 := by
    have := (List.getElem?_eq_some_iff.mp hk).1
    rwa [rowL_len] at this
  simp [rowL, List.getElem?_range hlt] at hk
  rw [← hk]
  exact h8 k hlt
end
section
theorem or_nI (a b : Nat) : nI a ||| nI b = nI (a ||| b) := by
  apply Int32.toBitVec_inj.1
  show BitVec.ofNat 32 a ||| BitVec.ofNat 32 b = BitVec.ofNat 32 (a ||| b)
  apply BitVec.eq_of_getLsbD_eq
  intro i hi
  simp [hi]
theorem bit_set (n j i : Nat) : (n ||| 2 ^ j).testBit i = (n.testBit i || decide (i = j)) := by
  rw [Nat.testBit_or]
  by_cases h : j = i
  · subst h; simp
  · have h2 : ¬ i = j := fun e => h e.symm
    first | (simp [Nat.testBit_two_pow, h, h2]; done) | (simp [Nat.testBit_two_pow_of_ne h, h2]; done)
theorem shl1 : ∀ i, i < 31 → (1 : Int32) <<< (nI i &&& 31) = nI (2 ^ i) := by decide +kernel
/-- an int whose bits are just those -/
def isBits (x : Int32) (P : Nat → Prop) : Prop := ∃ a, a < 2 ^ 31 ∧ x = nI a ∧ ∀ i, a.testBit i = true ↔ P i
theorem isBits.uniq {x y : Int32} {P Q : Nat → Prop} (h1 : isBits x P) (h2 : isBits y Q) (h : ∀ i, P i ↔ Q i) : x = y := by
  obtain ⟨a, -, rfl, ha⟩ := h1
  obtain ⟨b, -, rfl, hb⟩ := h2
  have : a = b := by
    apply Nat.eq_of_testBit_eq
    intro i
    rw [Bool.eq_iff_iff, ha i, hb i]
    exact h i
  rw [this]
theorem isBits.to {x : Int32} {P Q : Nat → Prop} (h1 : isBits x P) (h : ∀ i, P i ↔ Q i) : isBits x Q := by
  obtain ⟨a, a1, a2, a3⟩ := h1
  exact ⟨a, a1, a2, fun i => (a3 i).trans (h i)⟩
theorem isBits.zero : isBits 0 (fun _ => False) := ⟨0, by decide, rfl, fun i => by simp⟩
theorem isBits.or {x : Int32} {P : Nat → Prop} {k : Nat} (h : isBits x P) (hk : k < 31) : isBits (x ||| (1 <<< (nI k &&& 31))) (fun i => P i ∨ i = k) := by
  obtain ⟨a, a1, rfl, a3⟩ := h
  refine ⟨a ||| 2 ^ k, Nat.or_lt_two_pow a1 (Nat.pow_lt_pow_right (by decide) hk), ?_, fun i => ?_⟩
  · rw [shl1 k hk, or_nI]
  · rw [bit_set, Bool.or_eq_true, a3 i, decide_eq_true_eq]
theorem isBits.or2 {x : Int32} {P : Nat → Prop} {k j : Nat} (h : isBits x P) (hk : k < 31) (hj : j < 31) : isBits (x ||| ((1 <<< (nI k &&& 31)) ||| (1 <<< (nI j &&& 31)))) (fun i => P i ∨ i = k ∨ i = j) := by
  obtain ⟨a, a1, rfl, a3⟩ := h
  refine ⟨(a ||| 2 ^ k) ||| 2 ^ j, Nat.or_lt_two_pow (Nat.or_lt_two_pow a1 (Nat.pow_lt_pow_right (by decide) hk)) (Nat.pow_lt_pow_right (by decide) hj), ?_, fun i => ?_⟩
  · rw [shl1 k hk, shl1 j hj, or_nI, or_nI, Nat.or_assoc]
  · rw [bit_set, bit_set, Bool.or_eq_true, Bool.or_eq_true, a3 i, decide_eq_true_eq, decide_eq_true_eq, or_assoc]
theorem isBits.getU {x : Int32} {P : Nat → Prop} {k : Nat} (h : isBits x P) (hk : k < 31) : (P k → (x.toUInt32 >>> ((nI k).toUInt32 &&& Int32.toUInt32 31)).toInt32 &&& 1 = 1) ∧ (¬ P k → (x.toUInt32 >>> ((nI k).toUInt32 &&& Int32.toUInt32 31)).toInt32 &&& 1 = 0) := by
  obtain ⟨a, a1, rfl, a3⟩ := h
  rw [vow_u a1 (by omega)]
  refine ⟨fun q => ?_, fun q => ?_⟩
  · rw [if_pos ((a3 k).mpr q)]; rfl
  · rw [if_neg (fun z => q ((a3 k).mp z))]; rfl
theorem isBits.getS {x : Int32} {P : Nat → Prop} {k : Nat} (h : isBits x P) (hk : k < 31) : (P k → (x >>> (nI k &&& 31)) &&& 1 = 1) ∧ (¬ P k → (x >>> (nI k &&& 31)) &&& 1 = 0) := by
  obtain ⟨a, a1, rfl, a3⟩ := h
  rw [vow_s a1 (by omega)]
  refine ⟨fun q => ?_, fun q => ?_⟩
  · rw [if_pos ((a3 k).mpr q)]; rfl
  · rw [if_neg (fun z => q ((a3 k).mp z))]; rfl
end
section
theorem c_isTooLong {l : Launch} {X : XT} {d : Nat} {h : Nat} {m : Mem} : Meth l X d M_X4_isTooLong [vR 5 h] m (fun r m' => r = some (vI (if m h 1 = -1 then 1 else 0)) ∧ m' = m) := by
  refine E_X4_isTooLong (ls := [vR 5 h]) rfl rfl ?_
  repeat refine AW.s rfl ?_
  try dsimp only [List.set_cons_zero, List.set_cons_succ, Option.toList_some, Option.toList_none, List.cons_append, List.nil_append]
  refine AW.b rfl (fun hc => ?_) (fun hc => ?_)
  · repeat refine AW.s rfl ?_
    try dsimp only [List.set_cons_zero, List.set_cons_succ, Option.toList_some, Option.toList_none, List.cons_append, List.nil_append]
    exact AW.ri rfl rfl rfl ⟨by rw [if_pos hc], rfl⟩
  · repeat refine AW.s rfl ?_
    try dsimp only [List.set_cons_zero, List.set_cons_succ, Option.toList_some, Option.toList_none, List.cons_append, List.nil_append]
    exact AW.ri rfl rfl rfl ⟨by rw [if_neg hc], rfl⟩
theorem c_vowelCount {l : Launch} {X : XT} {d : Nat} {h V : Nat} {m : Mem} {xs : List Nat} (hy : RY m h (some xs)) (hg : GL xs) (hl : xs.length ≤ 40) (hV : V < 2 ^ 26) : Meth l X d M_X4_vowelCount [vR 5 h, vI (nI V)] m (fun r m' => r = some (vI (nI (vcnt V xs))) ∧ m' = m) := by
  refine E_X4_vowelCount (ls := [vR 5 h, vI (nI V), vU, vU]) rfl rfl ?_
  repeat refine AW.u 4 rfl rfl ?_
  try dsimp only [List.set_cons_zero, List.set_cons_succ, Option.toList_some, Option.toList_none, List.cons_append, List.nil_append]
  refine AW.loop (pc := 4) (σ := Unit) xs.length (fun i _ => [vR 5 h, vI (nI V), vI (nI (vcnt V (xs.take i))), vI (nI i)]) (fun _ _ m1 => m1 = m) (fun i _ m1 hi hm1 ih => ?_) 0 () m (Nat.zero_le _) rfl
  subst hm1
  repeat refine AW.s rfl ?_
  try dsimp only [List.set_cons_zero, List.set_cons_succ, Option.toList_some, Option.toList_none, List.cons_append, List.nil_append]
  rw [hy.1]
  refine AW.b rfl (fun hc => ?_) (fun hc => ?_)
  · have hlt : i < xs.length := (nI_ltI (by omega) (by omega)).mp hc
    obtain ⟨x, hx⟩ : ∃ x, xs[i]? = some x := ⟨_, List.getElem?_eq_getElem hlt⟩
    have hx26 : x < 26 := hg x (List.mem_of_getElem? hx)
    repeat refine AW.s rfl ?_
    try dsimp only [List.set_cons_zero, List.set_cons_succ, Option.toList_some, Option.toList_none, List.cons_append, List.nil_append]
    refine AW.c rfl (vp_in_nI (by omega) (by decide)) ?_
    try dsimp only [List.set_cons_zero, List.set_cons_succ, Option.toList_some, Option.toList_none, List.cons_append, List.nil_append]
    rw [nI_clamp (by omega), hy.2 i x hx]
    iterate 3 refine AW.s rfl ?_
    try dsimp only [List.set_cons_zero, List.set_cons_succ, Option.toList_some, Option.toList_none, List.cons_append, List.nil_append]
    rw [vow_u (by omega) (by omega)]
    refine AW.s rfl ?_
    try dsimp only [List.set_cons_zero, List.set_cons_succ, Option.toList_some, Option.toList_none, List.cons_append, List.nil_append]
    rw [nI_add, ← vcnt_take hx]
    iterate 3 refine AW.s rfl ?_
    try dsimp only [List.set_cons_zero, List.set_cons_succ, Option.toList_some, Option.toList_none, List.cons_append, List.nil_append]
    rw [nI_1]
    exact ih () m1 hlt rfl
  · have : i = xs.length := by
      have : ¬ i < xs.length := fun q => hc ((nI_ltI (by omega) (by omega)).mpr q)
      omega
    subst this
    repeat refine AW.s rfl ?_
    try dsimp only [List.set_cons_zero, List.set_cons_succ, Option.toList_some, Option.toList_none, List.cons_append, List.nil_append]
    rw [List.take_length]
    exact AW.ri rfl rfl rfl ⟨rfl, rfl⟩
theorem c_shift {l : Launch} {X : XT} {d : Nat} {h n : Nat} {m : Mem} {xs : List Nat} (hy : RY m h (some xs)) (hg : GL xs) (hl : xs.length ≤ 40) (hn : n < 26) : Meth l X d M_X4_shift [vR 5 h, vI (nI n)] m (fun r m' => r = none ∧ RY m' h (some (shf n xs)) ∧ ∀ a, a ≠ h + 1 → m' a = m a) := by
  refine E_X4_shift (ls := [vR 5 h, vI (nI n), vU]) rfl rfl ?_
  repeat refine AW.u 2 rfl rfl ?_
  try dsimp only [List.set_cons_zero, List.set_cons_succ, Option.toList_some, Option.toList_none, List.cons_append, List.nil_append]
  refine AW.loop (pc := 2) (σ := Unit) xs.length (fun i _ => [vR 5 h, vI (nI n), vI (nI i)]) (fun i _ m1 => (∀ a, a ≠ h + 1 → m1 a = m a) ∧ ∀ k x, xs[k]? = some x → m1 (h + 1) k = nI (if k < i then (x + n) % 26 else x)) (fun i _ m1 hi hm1 ih => ?_) 0 () m (Nat.zero_le _) ⟨fun _ _ => rfl, fun k x hk => by rw [if_neg (by omega)]; exact hy.2 k x hk⟩
  obtain ⟨hf, hv⟩ := hm1
  have hsz : m1 h 1 = nI xs.length := by rw [hf h (by omega)]; exact hy.1
  repeat refine AW.s rfl ?_
  try dsimp only [List.set_cons_zero, List.set_cons_succ, Option.toList_some, Option.toList_none, List.cons_append, List.nil_append]
  rw [hsz]
  refine AW.b rfl (fun hc => ?_) (fun hc => ?_)
  · have hlt : i < xs.length := (nI_ltI (by omega) (by omega)).mp hc
    obtain ⟨x, hx⟩ : ∃ x, xs[i]? = some x := ⟨_, List.getElem?_eq_getElem hlt⟩
    have hx26 : x < 26 := hg x (List.mem_of_getElem? hx)
    have hval := hv i x hx
    rw [if_neg (by omega)] at hval
    repeat refine AW.s rfl ?_
    try dsimp only [List.set_cons_zero, List.set_cons_succ, Option.toList_some, Option.toList_none, List.cons_append, List.nil_append]
    refine AW.c rfl (vp_in_nI (by omega) (by decide)) ?_
    try dsimp only [List.set_cons_zero, List.set_cons_succ, Option.toList_some, Option.toList_none, List.cons_append, List.nil_append]
    rw [nI_clamp (by omega), hval]
    iterate 3 refine AW.s rfl ?_
    try dsimp only [List.set_cons_zero, List.set_cons_succ, Option.toList_some, Option.toList_none, List.cons_append, List.nil_append]
    refine AW.c rfl (by decide) ?_
    try dsimp only [List.set_cons_zero, List.set_cons_succ, Option.toList_some, Option.toList_none, List.cons_append, List.nil_append]
    rw [rem26 (by omega) (by omega)]
    refine AW.c rfl (⟨vp_in_nI (by omega) (by decide), fun q => absurd q (by decide)⟩) ?_
    try dsimp only [List.set_cons_zero, List.set_cons_succ, Option.toList_some, Option.toList_none, List.cons_append, List.nil_append]
    rw [nI_clamp (by omega)]
    iterate 2 refine AW.s rfl ?_
    try dsimp only [List.set_cons_zero, List.set_cons_succ, Option.toList_some, Option.toList_none, List.cons_append, List.nil_append]
    rw [nI_1]
    refine ih () _ hlt ⟨fun a ha => ?_, fun k y hk => ?_⟩
    · rw [mUp_a ha]; exact hf a ha
    · by_cases e : k = i
      · subst e
        rw [hx] at hk
        cases hk
        rw [mUp_s, if_pos (by omega)]
      · rw [mUp_n (Or.inr e), hv k y hk]
        by_cases q : k < i
        · rw [if_pos q, if_pos (show k < i + 1 by omega)]
        · rw [if_neg q, if_neg (show ¬ k < i + 1 by omega)]
  · have : i = xs.length := by
      have : ¬ i < xs.length := fun q => hc ((nI_ltI (by omega) (by omega)).mpr q)
      omega
    subst this
    refine AW.rv rfl rfl ⟨rfl, ⟨?_, fun k y hk => ?_⟩, hf⟩
    · rw [hsz]; simp [shf]
    · simp only [shf, List.getElem?_map, Option.map_eq_some_iff] at hk
      obtain ⟨x, hx, rfl⟩ := hk
      rw [hv k x hx, if_pos (List.getElem?_eq_some_iff.mp hx).1]
theorem c_shiftVowels {l : Launch} {X : XT} {d : Nat} {h n V : Nat} {m : Mem} {xs : List Nat} (hy : RY m h (some xs)) (hg : GL xs) (hl : xs.length ≤ 40) (hn : n < 26) (hV : V < 2 ^ 26) : Meth l X d M_X4_shiftVowels [vR 5 h, vI (nI n), vI (nI V)] m (fun r m' => r = none ∧ RY m' h (some (shV V n xs)) ∧ ∀ a, a ≠ h + 1 → m' a = m a) := by
  refine E_X4_shiftVowels (ls := [vR 5 h, vI (nI n), vI (nI V), vU]) rfl rfl ?_
  repeat refine AW.u 2 rfl rfl ?_
  try dsimp only [List.set_cons_zero, List.set_cons_succ, Option.toList_some, Option.toList_none, List.cons_append, List.nil_append]
  refine AW.loop (pc := 2) (σ := Unit) xs.length (fun i _ => [vR 5 h, vI (nI n), vI (nI V), vI (nI i)]) (fun i _ m1 => (∀ a, a ≠ h + 1 → m1 a = m a) ∧ ∀ k x, xs[k]? = some x → m1 (h + 1) k = nI (if k < i then (if V.testBit x then (x + n) % 26 else x) else x)) (fun i _ m1 hi hm1 ih => ?_) 0 () m (Nat.zero_le _) ⟨fun _ _ => rfl, fun k x hk => by rw [if_neg (by omega)]; exact hy.2 k x hk⟩
  obtain ⟨hf, hv⟩ := hm1
  have hsz : m1 h 1 = nI xs.length := by rw [hf h (by omega)]; exact hy.1
  repeat refine AW.s rfl ?_
  try dsimp only [List.set_cons_zero, List.set_cons_succ, Option.toList_some, Option.toList_none, List.cons_append, List.nil_append]
  rw [hsz]
  refine AW.b rfl (fun hc => ?_) (fun hc => ?_)
  · have hlt : i < xs.length := (nI_ltI (by omega) (by omega)).mp hc
    obtain ⟨x, hx⟩ : ∃ x, xs[i]? = some x := ⟨_, List.getElem?_eq_getElem hlt⟩
    have hx26 : x < 26 := hg x (List.mem_of_getElem? hx)
    have hval := hv i x hx
    rw [if_neg (by omega)] at hval
    repeat refine AW.s rfl ?_
    try dsimp only [List.set_cons_zero, List.set_cons_succ, Option.toList_some, Option.toList_none, List.cons_append, List.nil_append]
    refine AW.c rfl (vp_in_nI (by omega) (by decide)) ?_
    try dsimp only [List.set_cons_zero, List.set_cons_succ, Option.toList_some, Option.toList_none, List.cons_append, List.nil_append]
    rw [nI_clamp (by omega), hval]
    iterate 3 refine AW.s rfl ?_
    try dsimp only [List.set_cons_zero, List.set_cons_succ, Option.toList_some, Option.toList_none, List.cons_append, List.nil_append]
    rw [vow_u (by omega) (by omega)]
    refine AW.b rfl (fun hc => ?_) (fun hc => ?_)
    · have hvx : V.testBit x = false := by
        by_cases q : V.testBit x = true
        · rw [q] at hc; exact absurd hc (by decide)
        · simpa using q
      iterate 2 refine AW.s rfl ?_
      try dsimp only [List.set_cons_zero, List.set_cons_succ, Option.toList_some, Option.toList_none, List.cons_append, List.nil_append]
      rw [nI_1]
      refine ih () m1 hlt ⟨hf, fun k y hk => ?_⟩
      rw [hv k y hk]
      by_cases e : k = i
      · subst e
        rw [hx] at hk
        cases hk
        simp [hvx]
      · by_cases q : k < i
        · rw [if_pos q, if_pos (show k < i + 1 by omega)]
        · rw [if_neg q, if_neg (show ¬ k < i + 1 by omega)]
    · have hvx : V.testBit x = true := by
        by_cases q : V.testBit x = true
        · exact q
        · rw [if_neg q] at hc; exact absurd rfl hc
      repeat refine AW.s rfl ?_
      try dsimp only [List.set_cons_zero, List.set_cons_succ, Option.toList_some, Option.toList_none, List.cons_append, List.nil_append]
      refine AW.c rfl (vp_in_nI (by omega) (by decide)) ?_
      try dsimp only [List.set_cons_zero, List.set_cons_succ, Option.toList_some, Option.toList_none, List.cons_append, List.nil_append]
      rw [nI_clamp (by omega), hval]
      iterate 3 refine AW.s rfl ?_
      try dsimp only [List.set_cons_zero, List.set_cons_succ, Option.toList_some, Option.toList_none, List.cons_append, List.nil_append]
      refine AW.c rfl (by decide) ?_
      try dsimp only [List.set_cons_zero, List.set_cons_succ, Option.toList_some, Option.toList_none, List.cons_append, List.nil_append]
      rw [rem26 (by omega) (by omega)]
      refine AW.c rfl (⟨vp_in_nI (by omega) (by decide), fun q => absurd q (by decide)⟩) ?_
      try dsimp only [List.set_cons_zero, List.set_cons_succ, Option.toList_some, Option.toList_none, List.cons_append, List.nil_append]
      rw [nI_clamp (by omega)]
      iterate 2 refine AW.s rfl ?_
      try dsimp only [List.set_cons_zero, List.set_cons_succ, Option.toList_some, Option.toList_none, List.cons_append, List.nil_append]
      rw [nI_1]
      refine ih () _ hlt ⟨fun a ha => ?_, fun k y hk => ?_⟩
      · rw [mUp_a ha]; exact hf a ha
      · by_cases e : k = i
        · subst e
          rw [hx] at hk
          cases hk
          rw [mUp_s, if_pos (by omega), if_pos hvx]
        · rw [mUp_n (Or.inr e), hv k y hk]
          by_cases q : k < i
          · rw [if_pos q, if_pos (show k < i + 1 by omega)]
          · rw [if_neg q, if_neg (show ¬ k < i + 1 by omega)]
  · have : i = xs.length := by
      have : ¬ i < xs.length := fun q => hc ((nI_ltI (by omega) (by omega)).mpr q)
      omega
    subst this
    refine AW.rv rfl rfl ⟨rfl, ⟨?_, fun k y hk => ?_⟩, hf⟩
    · rw [hsz]; simp [shV]
    · simp only [shV, List.getElem?_map, Option.map_eq_some_iff] at hk
      obtain ⟨x, hx, rfl⟩ := hk
      rw [hv k x hx, if_pos (List.getElem?_eq_some_iff.mp hx).1]
end
section
theorem c_repeatFirst {l : Launch} {X : XT} {d : Nat} {h : Nat} {m : Mem} {o : Option (List Nat)} (hd : 1 ≤ d) (hy : RY m h o) (ho : WFo o) : Meth l X d M_X4_repeatFirst [vR 5 h] m (fun r m' => r = none ∧ RY m' h (o.bind (fun ys => lim (ys ++ ys.take 1))) ∧ ∀ a, a ≠ h → a ≠ h + 1 → m' a = m a) := by
  obtain ⟨d, rfl⟩ : ∃ e, d = e + 1 := ⟨d - 1, by omega⟩
  refine E_X4_repeatFirst (ls := [vR 5 h]) rfl rfl ?_
  repeat refine AW.s rfl ?_
  try dsimp only [List.set_cons_zero, List.set_cons_succ, Option.toList_some, Option.toList_none, List.cons_append, List.nil_append]
  refine AW.V k_4_50 (c_isTooLong) rfl rfl rfl rfl rfl rfl (fun r1 m1 hq => ?_)
  obtain ⟨rfl, rfl⟩ := hq
  try dsimp only [List.set_cons_zero, List.set_cons_succ, Option.toList_some, Option.toList_none, List.cons_append, List.nil_append]
  cases o with
  | none =>
    have hy : m1 h 1 = -1 := hy
    rw [if_pos hy]
    refine AW.b rfl (fun hc => ?_) (fun hc => ?_)
    · exact absurd hc (by decide)
    · exact AW.rv rfl rfl ⟨rfl, hy, fun _ _ _ => rfl⟩
  | some ys =>
    obtain ⟨g1, g2, g3⟩ := ho ys rfl
    have hy1 := hy.1
    rw [if_neg (by rw [hy1]; exact nI_m1 (by omega))]
    refine AW.b rfl (fun hc => ?_) (fun hc => ?_)
    · repeat refine AW.s rfl ?_
      try dsimp only [List.set_cons_zero, List.set_cons_succ, Option.toList_some, Option.toList_none, List.cons_append, List.nil_append]
      rw [hy1]
      refine AW.b rfl (fun hc => ?_) (fun hc => ?_)
      · have e40 : ys.length = 40 := (nI_eq (b := 40) (by omega) (by decide)).mp hc
        repeat refine AW.s rfl ?_
        try dsimp only [List.set_cons_zero, List.set_cons_succ, Option.toList_some, Option.toList_none, List.cons_append, List.nil_append]
        refine AW.rv rfl rfl ⟨rfl, ?_, fun a h1 _ => mUp_a h1⟩
        show RY _ h (lim (ys ++ ys.take 1))
        unfold lim
        rw [if_neg (by rw [List.length_append, List.length_take]; omega)]
        exact mUp_s _ _ _ _
      · have n40 : ys.length < 40 := by
          have : ¬ ys.length = 40 := fun q => hc (by rw [q]; rfl)
          omega
        repeat refine AW.s rfl ?_
        try dsimp only [List.set_cons_zero, List.set_cons_succ, Option.toList_some, Option.toList_none, List.cons_append, List.nil_append]
        rw [hy1]
        repeat refine AW.s rfl ?_
        try dsimp only [List.set_cons_zero, List.set_cons_succ, Option.toList_some, Option.toList_none, List.cons_append, List.nil_append]
        refine AW.c rfl (vp_in_nI (n := 0) (by decide) (by decide)) ?_
        try dsimp only [List.set_cons_zero, List.set_cons_succ, Option.toList_some, Option.toList_none, List.cons_append, List.nil_append]
        obtain ⟨y0, hy0⟩ : ∃ x, ys[0]? = some x := ⟨_, List.getElem?_eq_getElem (by omega)⟩
        rw [show (0 : Int32).toNatClampNeg = 0 from rfl, hy.2 0 y0 hy0]
        refine AW.c rfl (⟨vp_in_nI (by omega) (by decide), fun q => absurd q (by decide)⟩) ?_
        try dsimp only [List.set_cons_zero, List.set_cons_succ, Option.toList_some, Option.toList_none, List.cons_append, List.nil_append]
        rw [nI_clamp (by omega)]
        repeat refine AW.s rfl ?_
        try dsimp only [List.set_cons_zero, List.set_cons_succ, Option.toList_some, Option.toList_none, List.cons_append, List.nil_append]
        rw [mUp_a (show h ≠ h + 1 by omega), hy1]
        refine AW.rv rfl rfl ⟨rfl, ?_, fun a h1 h2 => by rw [mUp_a h1, mUp_a h2]⟩
        show RY _ h (lim (ys ++ ys.take 1))
        unfold lim
        rw [if_pos (by rw [List.length_append, List.length_take]; omega)]
        refine ⟨?_, fun k x hk => ?_⟩
        · rw [mUp_s, List.length_append, List.length_take, show min 1 ys.length = 1 by omega]
          exact nI_1 _
        · rw [mUp_a (show h + 1 ≠ h by omega)]
          by_cases e : k = ys.length
          · subst e
            rw [mUp_s]
            rw [List.getElem?_append_right (Nat.le_refl _), Nat.sub_self, List.getElem?_take, if_pos (by decide), hy0] at hk
            cases hk
            rfl
          · rw [mUp_n (Or.inr e)]
            have hk2 : k < ys.length := by
              have := (List.getElem?_eq_some_iff.mp hk).1
              rw [List.length_append, List.length_take] at this
              omega
            rw [List.getElem?_append_left hk2] at hk
            exact hy.2 k x hk
    · exact absurd rfl hc
theorem c_reverse {l : Launch} {X : XT} {d : Nat} {h : Nat} {m : Mem} {xs : List Nat} (hy : RY m h (some xs)) (hl : xs.length ≤ 40) (h1l : 1 ≤ xs.length) : Meth l X d M_X4_reverse [vR 5 h] m (fun r m' => r = none ∧ RY m' h (some xs.reverse) ∧ ∀ a, a ≠ h + 1 → m' a = m a) := by
  refine E_X4_reverse (ls := [vR 5 h, vU, vU, vU]) rfl rfl ?_
  repeat refine AW.u 9 rfl rfl ?_
  try dsimp only [List.set_cons_zero, List.set_cons_succ, Option.toList_some, Option.toList_none, List.cons_append, List.nil_append]
  rw [hy.1, show nI xs.length - 1 = nI (xs.length - 1) from pk_sub (b := 1) h1l]
  refine AW.wf (pc := 9) (σ := Nat) (fun i => xs.length - i) (fun i => [vR 5 h, vI (nI i), vI (nI (xs.length - 1 - i)), vU]) (fun i m1 => 2 * i ≤ xs.length ∧ (∀ a, a ≠ h + 1 → m1 a = m a) ∧ ∀ k x, xs[k]? = some x → m1 (h + 1) (if k < i ∨ xs.length ≤ k + i then xs.length - 1 - k else k) = nI x) (fun i m1 hm1 ih => ?_) 0 m ⟨by omega, fun _ _ => rfl, fun k x hk => ?_⟩
  · obtain ⟨hi, hf, hv⟩ := hm1
    have hle : i ≤ xs.length - 1 := by omega
    · repeat refine AW.s rfl ?_
      try dsimp only [List.set_cons_zero, List.set_cons_succ, Option.toList_some, Option.toList_none, List.cons_append, List.nil_append]
      refine AW.b rfl (fun hc => ?_) (fun hc => ?_)
      · have hlt : i < xs.length - 1 - i := (nI_ltI (by omega) (by omega)).mp hc
        obtain ⟨x, hx⟩ : ∃ x, xs[i]? = some x := ⟨_, List.getElem?_eq_getElem (by omega)⟩
        obtain ⟨y, hyy⟩ : ∃ y, xs[xs.length - 1 - i]? = some y := ⟨_, List.getElem?_eq_getElem (by omega)⟩
        have vx := hv i x hx
        have vy := hv _ y hyy
        rw [if_neg (by omega)] at vx
        rw [if_neg (by omega)] at vy
        repeat refine AW.s rfl ?_
        try dsimp only [List.set_cons_zero, List.set_cons_succ, Option.toList_some, Option.toList_none, List.cons_append, List.nil_append]
        refine AW.c rfl (vp_in_nI (by omega) (by decide)) ?_
        try dsimp only [List.set_cons_zero, List.set_cons_succ, Option.toList_some, Option.toList_none, List.cons_append, List.nil_append]
        rw [nI_clamp (by omega), vx]
        repeat refine AW.s rfl ?_
        try dsimp only [List.set_cons_zero, List.set_cons_succ, Option.toList_some, Option.toList_none, List.cons_append, List.nil_append]
        refine AW.c rfl (vp_in_nI (by omega) (by decide)) ?_
        try dsimp only [List.set_cons_zero, List.set_cons_succ, Option.toList_some, Option.toList_none, List.cons_append, List.nil_append]
        rw [nI_clamp (by omega), vy]
        refine AW.c rfl (⟨vp_in_nI (by omega) (by decide), fun q => absurd q (by decide)⟩) ?_
        try dsimp only [List.set_cons_zero, List.set_cons_succ, Option.toList_some, Option.toList_none, List.cons_append, List.nil_append]
        rw [nI_clamp (by omega)]
        repeat refine AW.s rfl ?_
        try dsimp only [List.set_cons_zero, List.set_cons_succ, Option.toList_some, Option.toList_none, List.cons_append, List.nil_append]
        refine AW.c rfl (⟨vp_in_nI (by omega) (by decide), fun q => absurd q (by decide)⟩) ?_
        try dsimp only [List.set_cons_zero, List.set_cons_succ, Option.toList_some, Option.toList_none, List.cons_append, List.nil_append]
        rw [nI_clamp (by omega)]
        repeat refine AW.u 9 rfl rfl ?_
        try dsimp only [List.set_cons_zero, List.set_cons_succ, Option.toList_some, Option.toList_none, List.cons_append, List.nil_append]
        refine AW.fg 3 ?_
        try dsimp only [List.set_cons_zero, List.set_cons_succ, Option.toList_some, Option.toList_none, List.cons_append, List.nil_append]
        refine AW.at (ih (i + 1) _ (by omega) ⟨by omega, fun a ha => by rw [mUp_a ha, mUp_a ha]; exact hf a ha, fun k z hk => ?_⟩) rfl ?_ rfl rfl
        · have hk2 : k < xs.length := (List.getElem?_eq_some_iff.mp hk).1
          by_cases e1 : k = i
          · subst e1
            rw [hx] at hk
            cases hk
            rw [if_pos (by omega), mUp_s]
          · by_cases e2 : k = xs.length - 1 - i
            · subst e2
              rw [hyy] at hk
              cases hk
              rw [if_pos (by omega), mUp_n (Or.inr (by omega)), show xs.length - 1 - (xs.length - 1 - i) = i by omega, mUp_s]
            · rw [mUp_n (Or.inr (by split <;> omega)), mUp_n (Or.inr (by split <;> omega)), ← hv k z hk]
              by_cases q : k < i ∨ xs.length ≤ k + i
              · rw [if_pos q, if_pos (by omega)]
              · rw [if_neg q, if_neg (by omega)]
        · rw [nI_1, show nI (xs.length - 1 - i) + (-1) = nI (xs.length - 1 - (i + 1)) by
            rw [show xs.length - 1 - i = (xs.length - 1 - (i + 1)) + 1 by omega]; exact pk_m1 _]
          rfl
      · have hge : xs.length - 1 - i ≤ i := by
          have : ¬ i < xs.length - 1 - i := fun q => hc ((nI_ltI (by omega) (by omega)).mpr q)
          omega
        refine AW.rv rfl rfl ⟨rfl, ⟨?_, fun k x hk => ?_⟩, hf⟩
        · rw [hf h (by omega), List.length_reverse]; exact hy.1
        · have hk2 : k < xs.length := by
            have := (List.getElem?_eq_some_iff.mp hk).1
            rwa [List.length_reverse] at this
          rw [List.getElem?_reverse hk2] at hk
          have := hv _ x hk
          rw [← this]
          congr 1
          split <;> omega
  · have := (List.getElem?_eq_some_iff.mp hk).1
    rw [if_neg (by omega)]; exact hy.2 k x hk
end
section
def frI (i : Nat) : Int32 := if i = 0 then -1 else nI (i - 1)
theorem frI_dec (j : Nat) : nI j + (-1) = frI j := by
  cases j with
  | zero => rfl
  | succ j => rw [pk_m1]; rfl
theorem insA_take_len {V l i : Nat} {xs : List Nat} (h : i ≤ xs.length) : (insA V l (xs.take i)).length = i + vcnt V (xs.take i) := by
  rw [insA_len, List.length_take]
  omega
theorem insA_drop {V l j x : Nat} {xs : List Nat} (h : xs[j]? = some x) : insA V l (xs.drop j) = (if V.testBit x then [x, l] else [x]) ++ insA V l (xs.drop (j + 1)) := by
  have hlt : j < xs.length := (List.getElem?_eq_some_iff.mp h).1
  have hx : xs[j] = x := (List.getElem?_eq_some_iff.mp h).2
  rw [List.drop_eq_getElem_cons hlt, hx]
  rfl
theorem c_putAfter {l : Launch} {X : XT} {d : Nat} {h V lt : Nat} {m : Mem} {xs : List Nat} (hd : 1 ≤ d) (hy : RY m h (some xs)) (ho : WFo (some xs)) (hV : V < 2 ^ 26) (hlt26 : lt < 26) : Meth l X d M_X4_putAfterVowels [vR 5 h, vI (nI lt), vI (nI V)] m (fun r m' => r = none ∧ RY m' h (lim (insA V lt xs)) ∧ ∀ a, a ≠ h → a ≠ h + 1 → m' a = m a) := by
  obtain ⟨d, rfl⟩ : ∃ e, d = e + 1 := ⟨d - 1, by omega⟩
  obtain ⟨hg, h1l, hl⟩ := ho xs rfl
  refine E_X4_putAfterVowels (ls := [vR 5 h, vI (nI lt), vI (nI V), vU, vU, vU]) rfl rfl ?_
  repeat refine AW.s rfl ?_
  try dsimp only [List.set_cons_zero, List.set_cons_succ, Option.toList_some, Option.toList_none, List.cons_append, List.nil_append]
  refine AW.V k_4_83 ((c_vowelCount hy hg hl hV)) rfl rfl rfl rfl rfl rfl (fun r1 m1 hq => ?_)
  obtain ⟨rfl, rfl⟩ := hq
  try dsimp only [List.set_cons_zero, List.set_cons_succ, Option.toList_some, Option.toList_none, List.cons_append, List.nil_append]
  rw [hy.1]
  have hvl := vcnt_le (V := V) xs
  refine AW.s rfl ?_
  try dsimp only [List.set_cons_zero, List.set_cons_succ, Option.toList_some, Option.toList_none, List.cons_append, List.nil_append]
  rw [nI_add]
  repeat refine AW.s rfl ?_
  try dsimp only [List.set_cons_zero, List.set_cons_succ, Option.toList_some, Option.toList_none, List.cons_append, List.nil_append]
  refine AW.b rfl (fun hc => ?_) (fun hc => ?_)
  · have hgt : 40 < xs.length + vcnt V xs := (nI_ltI (a := 40) (by decide) (by omega)).mp hc
    repeat refine AW.s rfl ?_
    try dsimp only [List.set_cons_zero, List.set_cons_succ, Option.toList_some, Option.toList_none, List.cons_append, List.nil_append]
    refine AW.rv rfl rfl ⟨rfl, ?_, fun a h1 _ => mUp_a h1⟩
    unfold lim
    rw [if_neg (by rw [insA_len]; omega)]
    exact mUp_s _ _ _ _
  · have hle : xs.length + vcnt V xs ≤ 40 := by
      have : ¬ 40 < xs.length + vcnt V xs := fun q => hc ((nI_ltI (a := 40) (by decide) (by omega)).mpr q)
      omega
    iterate 4 refine AW.s rfl ?_
    try dsimp only [List.set_cons_zero, List.set_cons_succ, Option.toList_some, Option.toList_none, List.cons_append, List.nil_append]
    rw [hy.1, show nI xs.length - 1 = frI xs.length from by
      unfold frI; rw [if_neg (by omega)]; exact pk_sub (b := 1) h1l]
    repeat refine AW.u 36 rfl rfl ?_
    try dsimp only [List.set_cons_zero, List.set_cons_succ, Option.toList_some, Option.toList_none, List.cons_append, List.nil_append]
    refine AW.at (pc2 := 36) (AW.wf (pc := 36) (σ := Nat) (fun i => i) (fun i => [vR 5 h, vI (nI lt), vI (nI V), vI (nI (i + vcnt V (xs.take i))), vI (frI i), vU]) (fun i m2 => i ≤ xs.length ∧ m2 h 1 = nI (xs.length + vcnt V xs) ∧ (∀ a, a ≠ h → a ≠ h + 1 → m2 a = m1 a) ∧ (∀ k x, k < i → xs[k]? = some x → m2 (h + 1) k = nI x) ∧ ∀ k y, (insA V lt (xs.drop i))[k]? = some y → m2 (h + 1) (i + vcnt V (xs.take i) + k) = nI y) (fun i m2 hm2 ih => ?_) xs.length (mUp m1 h 1 (nI (xs.length + vcnt V xs))) ⟨Nat.le_refl _, mUp_s _ _ _ _, fun a h1 _ => mUp_a h1, fun k x _ hk => by rw [mUp_a (by omega)]; exact hy.2 k x hk, fun k y hk => by simp [insA] at hk⟩) rfl (by rw [List.take_length]; rfl) rfl rfl
    obtain ⟨hi, hsz, hf, hv, hw⟩ := hm2
    repeat refine AW.s rfl ?_
    try dsimp only [List.set_cons_zero, List.set_cons_succ, Option.toList_some, Option.toList_none, List.cons_append, List.nil_append]
    cases i with
    | zero =>
      refine AW.b rfl (fun hc => ?_) (fun hc => ?_)
      · refine AW.rv rfl rfl ⟨rfl, ?_, hf⟩
        unfold lim
        rw [if_pos (by rw [insA_len]; omega)]
        refine ⟨by rw [insA_len]; exact hsz, fun k y hk => ?_⟩
        have := hw k y hk
        rw [show 0 + vcnt V (xs.take 0) + k = k by simp [vcnt]] at this
        exact this
      · exact absurd (by decide) hc
    | succ j =>
      have hfr : frI (j + 1) = nI j := rfl
      rw [hfr]
      refine AW.b rfl (fun hc => ?_) (fun hc => ?_)
      · exact absurd hc (nI_pos (by omega))
      · obtain ⟨x, hx⟩ : ∃ x, xs[j]? = some x := ⟨_, List.getElem?_eq_getElem (by omega)⟩
        have hx26 : x < 26 := hg x (List.mem_of_getElem? hx)
        have vx := hv j x (by omega) hx
        have vt := vcnt_take (V := V) hx
        have vle : vcnt V (xs.take (j + 1)) ≤ vcnt V xs := by
          have h9 : vcnt V xs = vcnt V (xs.take (j + 1)) + vcnt V (xs.drop (j + 1)) := by
            unfold vcnt
            rw [← List.countP_append, List.take_append_drop]
          omega
        have hins := insA_drop (V := V) (l := lt) hx
        repeat refine AW.s rfl ?_
        try dsimp only [List.set_cons_zero, List.set_cons_succ, Option.toList_some, Option.toList_none, List.cons_append, List.nil_append]
        refine AW.c rfl (vp_in_nI (by omega) (by decide)) ?_
        try dsimp only [List.set_cons_zero, List.set_cons_succ, Option.toList_some, Option.toList_none, List.cons_append, List.nil_append]
        rw [nI_clamp (by omega), vx]
        repeat refine AW.s rfl ?_
        try dsimp only [List.set_cons_zero, List.set_cons_succ, Option.toList_some, Option.toList_none, List.cons_append, List.nil_append]
        rw [vow_u (by omega) (by omega)]
        refine AW.b rfl (fun hc => ?_) (fun hc => ?_)
        · have hvx : V.testBit x = false := by
            by_cases q : V.testBit x = true
            · rw [q] at hc; exact absurd hc (by decide)
            · simpa using q
          rw [hvx] at vt hins
          simp only [Bool.false_eq_true, if_false, Nat.add_zero] at vt hins
          rw [show j + 1 + vcnt V (xs.take (j + 1)) = (j + vcnt V (xs.take j)) + 1 by omega]
          refine AW.s rfl ?_
          try dsimp only [List.set_cons_zero, List.set_cons_succ, Option.toList_some, Option.toList_none, List.cons_append, List.nil_append]
          rw [pk_m1]
          repeat refine AW.s rfl ?_
          try dsimp only [List.set_cons_zero, List.set_cons_succ, Option.toList_some, Option.toList_none, List.cons_append, List.nil_append]
          refine AW.c rfl (⟨vp_in_nI (by omega) (by decide), fun q => absurd q (by decide)⟩) ?_
          try dsimp only [List.set_cons_zero, List.set_cons_succ, Option.toList_some, Option.toList_none, List.cons_append, List.nil_append]
          rw [nI_clamp (by omega)]
          refine AW.s rfl ?_
          try dsimp only [List.set_cons_zero, List.set_cons_succ, Option.toList_some, Option.toList_none, List.cons_append, List.nil_append]
          rw [frI_dec]
          refine AW.s rfl ?_
          try dsimp only [List.set_cons_zero, List.set_cons_succ, Option.toList_some, Option.toList_none, List.cons_append, List.nil_append]
          refine AW.fg 5 ?_
          try dsimp only [List.set_cons_zero, List.set_cons_succ, Option.toList_some, Option.toList_none, List.cons_append, List.nil_append]
          refine ih j _ (by omega) ⟨by omega, by rw [mUp_a (by omega)]; exact hsz, fun a h1 h2 => by rw [mUp_a h2]; exact hf a h1 h2, fun k y hk hky => ?_, fun k y hk => ?_⟩
          · rw [mUp_n (Or.inr (by omega))]; exact hv k y (by omega) hky
          · rw [hins] at hk
            cases k with
            | zero => cases hk; exact mUp_s _ _ _ _
            | succ k =>
              rw [mUp_n (Or.inr (by omega))]
              have := hw k y hk
              rw [show j + vcnt V (xs.take j) + (k + 1) = j + 1 + vcnt V (xs.take (j + 1)) + k by omega]
              exact this
        · have hvx : V.testBit x = true := by
            by_cases q : V.testBit x = true
            · exact q
            · rw [if_neg q] at hc; exact absurd rfl hc
          rw [hvx] at vt hins
          simp only [if_true] at vt hins
          rw [show j + 1 + vcnt V (xs.take (j + 1)) = (j + vcnt V (xs.take j) + 1) + 1 by omega]
          refine AW.s rfl ?_
          try dsimp only [List.set_cons_zero, List.set_cons_succ, Option.toList_some, Option.toList_none, List.cons_append, List.nil_append]
          rw [pk_m1]
          repeat refine AW.s rfl ?_
          try dsimp only [List.set_cons_zero, List.set_cons_succ, Option.toList_some, Option.toList_none, List.cons_append, List.nil_append]
          refine AW.c rfl (⟨vp_in_nI (by omega) (by decide), fun q => absurd q (by decide)⟩) ?_
          try dsimp only [List.set_cons_zero, List.set_cons_succ, Option.toList_some, Option.toList_none, List.cons_append, List.nil_append]
          rw [nI_clamp (by omega)]
          refine AW.s rfl ?_
          try dsimp only [List.set_cons_zero, List.set_cons_succ, Option.toList_some, Option.toList_none, List.cons_append, List.nil_append]
          rw [pk_m1]
          repeat refine AW.s rfl ?_
          try dsimp only [List.set_cons_zero, List.set_cons_succ, Option.toList_some, Option.toList_none, List.cons_append, List.nil_append]
          refine AW.c rfl (⟨vp_in_nI (by omega) (by decide), fun q => absurd q (by decide)⟩) ?_
          try dsimp only [List.set_cons_zero, List.set_cons_succ, Option.toList_some, Option.toList_none, List.cons_append, List.nil_append]
          rw [nI_clamp (by omega)]
          refine AW.s rfl ?_
          try dsimp only [List.set_cons_zero, List.set_cons_succ, Option.toList_some, Option.toList_none, List.cons_append, List.nil_append]
          rw [frI_dec]
          refine AW.s rfl ?_
          try dsimp only [List.set_cons_zero, List.set_cons_succ, Option.toList_some, Option.toList_none, List.cons_append, List.nil_append]
          refine AW.fg 5 ?_
          try dsimp only [List.set_cons_zero, List.set_cons_succ, Option.toList_some, Option.toList_none, List.cons_append, List.nil_append]
          refine ih j _ (by omega) ⟨by omega, by rw [mUp_a (by omega), mUp_a (by omega)]; exact hsz, fun a h1 h2 => by rw [mUp_a h2, mUp_a h2]; exact hf a h1 h2, fun k y hk hky => ?_, fun k y hk => ?_⟩
          · rw [mUp_n (Or.inr (by omega)), mUp_n (Or.inr (by omega))]; exact hv k y (by omega) hky
          · rw [hins] at hk
            match k, hk with
            | 0, hk => cases hk; exact mUp_s _ _ _ _
            | 1, hk => cases hk; rw [mUp_n (Or.inr (by omega)), mUp_s]
            | k + 2, hk =>
              rw [mUp_n (Or.inr (by omega)), mUp_n (Or.inr (by omega))]
              have := hw k y hk
              rw [show j + vcnt V (xs.take j) + (k + 2) = j + 1 + vcnt V (xs.take (j + 1)) + k by omega]
              exact this
end
section
theorem lim_two (A : List Nat) : (lim A).bind (fun ys => lim (ys ++ ys.take 1)) = lim (A ++ A.take 1) := by
  unfold lim
  by_cases h : A.length ≤ 40
  · rw [if_pos h]; rfl
  · rw [if_neg h, if_neg (by rw [List.length_append]; omega)]; rfl
theorem RY.fr {m m' : Mem} {h : Nat} {o : Option (List Nat)} (hy : RY m h o) (h1 : m' h = m h) (h2 : m' (h + 1) = m (h + 1)) : RY m' h o := by
  cases o with
  | none => show m' h 1 = -1; rw [h1]; exact hy
  | some xs => exact ⟨by rw [h1]; exact hy.1, by rw [h2]; exact hy.2⟩
theorem RepR.fr {m m' : Mem} {h : Nat} {rw : List Nat} (hy : RepR m h rw) (h1 : m' h = m h) (h2 : m' (h + 1) = m (h + 1)) : RepR m' h rw := ⟨by rw [h1]; exact hy.1, by rw [h2]; exact hy.2⟩
theorem c_begin {l : Launch} {X : XT} {d : Nat} {h w : Nat} {m : Mem} {σ : Sg} (hd : 1 ≤ d) (hs : RepS m 1 σ) (hσ : WF σ) (hw : w < σ 0 1) (hh : 18 ≤ h) : Meth l X d M_X4_begin [vR 5 h, vR 8 1, vI (nI w)] m (fun r m' => r = none ∧ RY m' h (some (wl σ w)) ∧ ∀ a, a ≠ h → a ≠ h + 1 → m' a = m a) := by
  obtain ⟨d, rfl⟩ : ∃ e, d = e + 1 := ⟨d - 1, by omega⟩
  obtain ⟨-, -, -, -, hs5, -⟩ := hs
  obtain ⟨-, w2, -, -, -, w6, -⟩ := hσ
  obtain ⟨q1, q2, q3⟩ := hs5 w hw
  obtain ⟨g1, g2, -, g4⟩ := w6 w hw
  have q1 : m 11 w = nI (σ 1 w) := q1
  refine E_X4_begin (ls := [vR 5 h, vR 8 1, vI (nI w)]) rfl rfl ?_
  repeat refine AW.s rfl ?_
  try dsimp only [List.set_cons_zero, List.set_cons_succ, Option.toList_some, Option.toList_none, List.cons_append, List.nil_append]
  refine AW.c rfl (vp_in_nI (by omega) (by decide)) ?_
  try dsimp only [List.set_cons_zero, List.set_cons_succ, Option.toList_some, Option.toList_none, List.cons_append, List.nil_append]
  rw [nI_clamp (by omega), q1]
  repeat refine AW.s rfl ?_
  try dsimp only [List.set_cons_zero, List.set_cons_succ, Option.toList_some, Option.toList_none, List.cons_append, List.nil_append]
  refine AW.c rfl (vp_in_nI (by omega) (by decide)) ?_
  try dsimp only [List.set_cons_zero, List.set_cons_succ, Option.toList_some, Option.toList_none, List.cons_append, List.nil_append]
  rw [nI_clamp (by omega)]
  repeat refine AW.s rfl ?_
  try dsimp only [List.set_cons_zero, List.set_cons_succ, Option.toList_some, Option.toList_none, List.cons_append, List.nil_append]
  rw [mUp_s]
  refine AW.cpy k_4_27 rfl rfl rfl rfl (by decide) (by decide) (nI_pos (by omega)) ?_ ?_ ?_
  · rw [nI_clamp (by omega)]; show 0 + σ 1 w ≤ 10; omega
  · rw [nI_clamp (by omega)]; show 0 + σ 1 w ≤ 40; omega
  rw [nI_clamp (by omega)]
  try dsimp only [List.set_cons_zero, List.set_cons_succ, Option.toList_some, Option.toList_none, List.cons_append, List.nil_append]
  refine AW.rv rfl rfl ⟨rfl, ⟨?_, fun k x hk => ?_⟩, fun a h1 h2 => ?_⟩
  · rw [mSr_n (by omega), mUp_s, wl_len]
  · obtain ⟨hk1, rfl⟩ := wl_get hk
    rw [mSr_s, show (0 : Int32).toNatClampNeg = 0 from rfl, pk_cpy_in (Nat.zero_le _) (by show k < 0 + σ 1 w; omega), mUp_a (by omega)]
    have := q3 k hk1
    rw [← this]
    congr 1
    · omega
    · show 0 + (k - 0) = k; omega
  · rw [mSr_n h2, mUp_a h1]
theorem c_turn {l : Launch} {X : XT} {d : Nat} {h r : Nat} {m : Mem} {σ : Sg} {o : Option (List Nat)} (hd : 2 ≤ d) (hs : RepS m 1 σ) (hσ : WF σ) (hr : r < σ 0 2) (hh : 18 ≤ h) (hy : RY m h o) (ho : WFo o) : Meth l X d M_X4_turn [vR 5 h, vR 8 1, vI (nI r)] m (fun r1 m' => r1 = none ∧ RY m' h (turnS σ r o) ∧ ∀ a, a ≠ h → a ≠ h + 1 → m' a = m a) := by
  obtain ⟨d, rfl⟩ : ∃ e, d = e + 1 := ⟨d - 1, by omega⟩
  have hs6 := hs.2.2.2.2.2.1 r hr
  have w7 := hσ.2.2.2.2.2.2.1 r hr
  have hV : m 1 0 = nI (σ 0 0) := hs.1
  have hVb := hσ.1
  have hr6 : r < 6 := Nat.lt_of_lt_of_le hr hσ.2.2.1
  have q1 : m 13 r = nI (σ 3 r) := hs6.1
  have q2 : m 14 r = nI (σ 4 r) := hs6.2.1
  have q3 : m 15 r = nI (σ 5 r) := hs6.2.2
  refine E_X4_turn (ls := [vR 5 h, vR 8 1, vI (nI r)]) rfl rfl ?_
  repeat refine AW.s rfl ?_
  try dsimp only [List.set_cons_zero, List.set_cons_succ, Option.toList_some, Option.toList_none, List.cons_append, List.nil_append]
  refine AW.V k_4_50 (c_isTooLong) rfl rfl rfl rfl rfl rfl (fun r1 m1 hq => ?_)
  obtain ⟨rfl, rfl⟩ := hq
  try dsimp only [List.set_cons_zero, List.set_cons_succ, Option.toList_some, Option.toList_none, List.cons_append, List.nil_append]
  cases o with
  | none =>
    have hy : m1 h 1 = -1 := hy
    rw [if_pos hy]
    refine AW.b rfl (fun hc => ?_) (fun hc => ?_)
    · exact absurd hc (by decide)
    · exact AW.rv rfl rfl ⟨rfl, hy, fun _ _ _ => rfl⟩
  | some xs =>
    obtain ⟨g1, g2, g3⟩ := ho xs rfl
    rw [if_neg (by rw [hy.1]; exact nI_m1 (by omega))]
    refine AW.b rfl (fun hc => ?_) (fun hc => ?_)
    · repeat refine AW.s rfl ?_
      try dsimp only [List.set_cons_zero, List.set_cons_succ, Option.toList_some, Option.toList_none, List.cons_append, List.nil_append]
      refine AW.c rfl (vp_in_nI (by omega) (by decide)) ?_
      try dsimp only [List.set_cons_zero, List.set_cons_succ, Option.toList_some, Option.toList_none, List.cons_append, List.nil_append]
      rw [nI_clamp (by omega), q1]
      have hk6 : σ 3 r = 0 ∨ σ 3 r = 1 ∨ σ 3 r = 2 ∨ σ 3 r = 3 ∨ σ 3 r = 4 ∨ σ 3 r = 5 := by omega
      have ht : turnS σ r (some xs) = turnL (σ 0 0) (σ 3 r) (σ 4 r) (σ 5 r) xs := rfl
      rw [ht]
      rcases hk6 with e | e | e | e | e | e <;> rw [e]
      · refine AW.tout (tgt := 123) rfl (by decide) (by decide) ?_
        exact AW.rv rfl rfl ⟨rfl, hy, fun _ _ _ => rfl⟩
      · refine AW.tin (tgt := 48) rfl (by decide) (by decide) rfl (by decide) ?_
        repeat refine AW.s rfl ?_
        try dsimp only [List.set_cons_zero, List.set_cons_succ, Option.toList_some, Option.toList_none, List.cons_append, List.nil_append]
        refine AW.c rfl (vp_in_nI (by omega) (by decide)) ?_
        try dsimp only [List.set_cons_zero, List.set_cons_succ, Option.toList_some, Option.toList_none, List.cons_append, List.nil_append]
        rw [nI_clamp (by omega), q2]
        repeat refine AW.s rfl ?_
        try dsimp only [List.set_cons_zero, List.set_cons_succ, Option.toList_some, Option.toList_none, List.cons_append, List.nil_append]
        rw [hV]
        refine AW.V k_4_63 ((c_putAfter (by omega) hy ho hVb w7.2.1)) rfl rfl rfl rfl rfl rfl (fun r1 m1 hq => ?_)
        obtain ⟨rfl, p1, p2⟩ := hq
        repeat refine AW.s rfl ?_
        try dsimp only [List.set_cons_zero, List.set_cons_succ, Option.toList_some, Option.toList_none, List.cons_append, List.nil_append]
        exact AW.rv rfl rfl ⟨rfl, p1, p2⟩
      · refine AW.tin (tgt := 65) rfl (by decide) (by decide) rfl (by decide) ?_
        repeat refine AW.s rfl ?_
        try dsimp only [List.set_cons_zero, List.set_cons_succ, Option.toList_some, Option.toList_none, List.cons_append, List.nil_append]
        refine AW.c rfl (vp_in_nI (by omega) (by decide)) ?_
        try dsimp only [List.set_cons_zero, List.set_cons_succ, Option.toList_some, Option.toList_none, List.cons_append, List.nil_append]
        rw [nI_clamp (by omega), q3]
        refine AW.V k_4_70 ((c_shift hy g1 g3 w7.2.2)) rfl rfl rfl rfl rfl rfl (fun r1 m1 hq => ?_)
        obtain ⟨rfl, p1, p2⟩ := hq
        repeat refine AW.s rfl ?_
        try dsimp only [List.set_cons_zero, List.set_cons_succ, Option.toList_some, Option.toList_none, List.cons_append, List.nil_append]
        exact AW.rv rfl rfl ⟨rfl, p1, fun a _ h2 => p2 a h2⟩
      · refine AW.tin (tgt := 78) rfl (by decide) (by decide) rfl (by decide) ?_
        repeat refine AW.s rfl ?_
        try dsimp only [List.set_cons_zero, List.set_cons_succ, Option.toList_some, Option.toList_none, List.cons_append, List.nil_append]
        refine AW.c rfl (vp_in_nI (by omega) (by decide)) ?_
        try dsimp only [List.set_cons_zero, List.set_cons_succ, Option.toList_some, Option.toList_none, List.cons_append, List.nil_append]
        rw [nI_clamp (by omega), q2]
        repeat refine AW.s rfl ?_
        try dsimp only [List.set_cons_zero, List.set_cons_succ, Option.toList_some, Option.toList_none, List.cons_append, List.nil_append]
        rw [hV]
        refine AW.V k_4_63 ((c_putAfter (by omega) hy ho hVb w7.2.1)) rfl rfl rfl rfl rfl rfl (fun r1 m1 hq => ?_)
        obtain ⟨rfl, p1, p2⟩ := hq
        repeat refine AW.s rfl ?_
        try dsimp only [List.set_cons_zero, List.set_cons_succ, Option.toList_some, Option.toList_none, List.cons_append, List.nil_append]
        have ho2 : WFo (lim (insA (σ 0 0) (σ 4 r) xs)) := by
          intro ys e2
          unfold lim at e2
          split at e2
          · cases e2
            rename_i h40
            exact ⟨insA_gl g1 w7.2.1, by rw [insA_len]; omega, h40⟩
          · cases e2
        refine AW.V k_4_74 ((c_repeatFirst (by omega) p1 ho2)) rfl rfl rfl rfl rfl rfl (fun r1 m1 hq => ?_)
        rename_i m2
        obtain ⟨rfl, p3, p4⟩ := hq
        repeat refine AW.s rfl ?_
        try dsimp only [List.set_cons_zero, List.set_cons_succ, Option.toList_some, Option.toList_none, List.cons_append, List.nil_append]
        refine AW.rv rfl rfl ⟨rfl, ?_, fun a h1 h2 => by rw [p4 a h1 h2, p2 a h1 h2]⟩
        show RY _ h (lim (insA (σ 0 0) (σ 4 r) xs ++ (insA (σ 0 0) (σ 4 r) xs).take 1))
        rw [← lim_two]
        exact p3
      · refine AW.tin (tgt := 99) rfl (by decide) (by decide) rfl (by decide) ?_
        repeat refine AW.s rfl ?_
        try dsimp only [List.set_cons_zero, List.set_cons_succ, Option.toList_some, Option.toList_none, List.cons_append, List.nil_append]
        refine AW.c rfl (vp_in_nI (by omega) (by decide)) ?_
        try dsimp only [List.set_cons_zero, List.set_cons_succ, Option.toList_some, Option.toList_none, List.cons_append, List.nil_append]
        rw [nI_clamp (by omega), q3]
        repeat refine AW.s rfl ?_
        try dsimp only [List.set_cons_zero, List.set_cons_succ, Option.toList_some, Option.toList_none, List.cons_append, List.nil_append]
        rw [hV]
        refine AW.V k_4_77 ((c_shiftVowels hy g1 g3 w7.2.2 hVb)) rfl rfl rfl rfl rfl rfl (fun r1 m1 hq => ?_)
        obtain ⟨rfl, p1, p2⟩ := hq
        repeat refine AW.s rfl ?_
        try dsimp only [List.set_cons_zero, List.set_cons_succ, Option.toList_some, Option.toList_none, List.cons_append, List.nil_append]
        exact AW.rv rfl rfl ⟨rfl, p1, fun a _ h2 => p2 a h2⟩
      · refine AW.tin (tgt := 116) rfl (by decide) (by decide) rfl (by decide) ?_
        repeat refine AW.s rfl ?_
        try dsimp only [List.set_cons_zero, List.set_cons_succ, Option.toList_some, Option.toList_none, List.cons_append, List.nil_append]
        refine AW.V k_4_80 ((c_reverse hy g3 g2)) rfl rfl rfl rfl rfl rfl (fun r1 m1 hq => ?_)
        obtain ⟨rfl, p1, p2⟩ := hq
        repeat refine AW.s rfl ?_
        try dsimp only [List.set_cons_zero, List.set_cons_succ, Option.toList_some, Option.toList_none, List.cons_append, List.nil_append]
        exact AW.rv rfl rfl ⟨rfl, p1, fun a _ h2 => p2 a h2⟩
    · exact absurd rfl hc
theorem c_turnByRow {l : Launch} {X : XT} {d : Nat} {h ρ : Nat} {m : Mem} {σ : Sg} {rw : List Nat} {o : Option (List Nat)} (hd : 3 ≤ d) (hs : RepS m 1 σ) (hσ : WF σ) (hrw : WFr σ rw) (hρ : RepR m ρ rw) (hh : 18 ≤ h) (hρh : ρ + 1 < h ∨ h + 1 < ρ) (hy : RY m h o) (ho : WFo o) : Meth l X d M_X4_turnByRow [vR 5 h, vR 8 1, vR 4 ρ] m (fun r1 m' => r1 = none ∧ RY m' h (sayR σ rw o) ∧ ∀ a, a ≠ h → a ≠ h + 1 → m' a = m a) := by
  obtain ⟨d, rfl⟩ : ∃ e, d = e + 1 := ⟨d - 1, by omega⟩
  have hr8 := hrw.1
  refine E_X4_turnByRow (ls := [vR 5 h, vR 8 1, vR 4 ρ, vU]) rfl rfl ?_
  repeat refine AW.u 2 rfl rfl ?_
  try dsimp only [List.set_cons_zero, List.set_cons_succ, Option.toList_some, Option.toList_none, List.cons_append, List.nil_append]
  refine AW.loop (pc := 2) (σ := Unit) rw.length (fun i _ => [vR 5 h, vR 8 1, vR 4 ρ, vI (nI i)]) (fun i _ m1 => (∀ a, a ≠ h → a ≠ h + 1 → m1 a = m a) ∧ RY m1 h (sayR σ (rw.take i) o)) (fun i _ m1 hi hm1 ih => ?_) 0 () m (Nat.zero_le _) ⟨fun _ _ _ => rfl, hy⟩
  obtain ⟨hf, hv⟩ := hm1
  have hsz : m1 ρ 1 = nI rw.length := by rw [hf ρ (by omega) (by omega)]; exact hρ.1
  repeat refine AW.s rfl ?_
  try dsimp only [List.set_cons_zero, List.set_cons_succ, Option.toList_some, Option.toList_none, List.cons_append, List.nil_append]
  rw [hsz]
  refine AW.b rfl (fun hc => ?_) (fun hc => ?_)
  · have hlt : i < rw.length := (nI_ltI (by omega) (by omega)).mp hc
    obtain ⟨r, hr⟩ : ∃ x, rw[i]? = some x := ⟨_, List.getElem?_eq_getElem hlt⟩
    have hr2 : r < σ 0 2 := hrw.2 r (List.mem_of_getElem? hr)
    have hval : m1 (ρ + 1) i = nI r := by rw [hf (ρ + 1) (by omega) (by omega)]; exact hρ.2 i r hr
    repeat refine AW.s rfl ?_
    try dsimp only [List.set_cons_zero, List.set_cons_succ, Option.toList_some, Option.toList_none, List.cons_append, List.nil_append]
    refine AW.c rfl (vp_in_nI (by omega) (by decide)) ?_
    try dsimp only [List.set_cons_zero, List.set_cons_succ, Option.toList_some, Option.toList_none, List.cons_append, List.nil_append]
    rw [nI_clamp (by omega), hval]
    refine AW.V k_4_41 ((c_turn (by omega) (hs.fr hσ.2.1 (fun a h1 h2 => hf a (by omega) (by omega))) hσ hr2 hh hv (sayR_wf hσ _ (fun q hq => hrw.2 q (List.mem_of_mem_take hq)) ho))) rfl rfl rfl rfl rfl rfl (fun r1 m1 hq => ?_)
    rename_i m2
    obtain ⟨rfl, p1, p2⟩ := hq
    repeat refine AW.u 2 rfl rfl ?_
    try dsimp only [List.set_cons_zero, List.set_cons_succ, Option.toList_some, Option.toList_none, List.cons_append, List.nil_append]
    rw [nI_1]
    refine ih () _ hlt ⟨fun a h1 h2 => by rw [p2 a h1 h2]; exact hf a h1 h2, ?_⟩
    rw [sayR_take hr]
    exact p1
  · have : i = rw.length := by
      have : ¬ i < rw.length := fun q => hc ((nI_ltI (by omega) (by omega)).mpr q)
      omega
    subst this
    rw [List.take_length] at hv
    exact AW.rv rfl rfl ⟨rfl, hv, hf⟩
theorem c_say {l : Launch} {X : XT} {d : Nat} {h ρ w : Nat} {m : Mem} {σ : Sg} {rw : List Nat} (hd : 4 ≤ d) (hs : RepS m 1 σ) (hσ : WF σ) (hrw : WFr σ rw) (hρ : RepR m ρ rw) (hw : w < σ 0 1) (hh : 18 ≤ h) (hρh : ρ + 1 < h ∨ h + 1 < ρ) : Meth l X d M_X4_say [vR 5 h, vR 8 1, vR 4 ρ, vI (nI w)] m (fun r1 m' => r1 = none ∧ RY m' h (saidS σ rw w) ∧ ∀ a, a ≠ h → a ≠ h + 1 → m' a = m a) := by
  obtain ⟨d, rfl⟩ : ∃ e, d = e + 1 := ⟨d - 1, by omega⟩
  refine E_X4_say (ls := [vR 5 h, vR 8 1, vR 4 ρ, vI (nI w)]) rfl rfl ?_
  repeat refine AW.s rfl ?_
  try dsimp only [List.set_cons_zero, List.set_cons_succ, Option.toList_some, Option.toList_none, List.cons_append, List.nil_append]
  refine AW.V k_4_33 ((c_begin (by omega) hs hσ hw hh)) rfl rfl rfl rfl rfl rfl (fun r1 m1 hq => ?_)
  obtain ⟨rfl, p1, p2⟩ := hq
  repeat refine AW.s rfl ?_
  try dsimp only [List.set_cons_zero, List.set_cons_succ, Option.toList_some, Option.toList_none, List.cons_append, List.nil_append]
  refine AW.V k_4_37 ((c_turnByRow (by omega) (hs.fr hσ.2.1 (fun a h1 h2 => p2 a (by omega) (by omega))) hσ hrw (hρ.fr (p2 ρ (by omega) (by omega)) (p2 (ρ + 1) (by omega) (by omega))) hh hρh p1 (wl_wf hσ hw))) rfl rfl rfl rfl rfl rfl (fun r1 m1 hq => ?_)
  rename_i m2
  obtain ⟨rfl, p3, p4⟩ := hq
  repeat refine AW.s rfl ?_
  try dsimp only [List.set_cons_zero, List.set_cons_succ, Option.toList_some, Option.toList_none, List.cons_append, List.nil_append]
  exact AW.rv rfl rfl ⟨rfl, p3, fun a h1 h2 => by rw [p4 a h1 h2, p2 a h1 h2]⟩
theorem c_sayByOne {l : Launch} {X : XT} {d : Nat} {h r w : Nat} {m : Mem} {σ : Sg} (hd : 3 ≤ d) (hs : RepS m 1 σ) (hσ : WF σ) (hr : r < σ 0 2) (hw : w < σ 0 1) (hh : 18 ≤ h) : Meth l X d M_X4_sayByOne [vR 5 h, vR 8 1, vI (nI r), vI (nI w)] m (fun r1 m' => r1 = none ∧ RY m' h (turnS σ r (some (wl σ w))) ∧ ∀ a, a ≠ h → a ≠ h + 1 → m' a = m a) := by
  obtain ⟨d, rfl⟩ : ∃ e, d = e + 1 := ⟨d - 1, by omega⟩
  refine E_X4_sayByOne (ls := [vR 5 h, vR 8 1, vI (nI r), vI (nI w)]) rfl rfl ?_
  repeat refine AW.s rfl ?_
  try dsimp only [List.set_cons_zero, List.set_cons_succ, Option.toList_some, Option.toList_none, List.cons_append, List.nil_append]
  refine AW.V k_4_33 ((c_begin (by omega) hs hσ hw hh)) rfl rfl rfl rfl rfl rfl (fun r1 m1 hq => ?_)
  obtain ⟨rfl, p1, p2⟩ := hq
  repeat refine AW.s rfl ?_
  try dsimp only [List.set_cons_zero, List.set_cons_succ, Option.toList_some, Option.toList_none, List.cons_append, List.nil_append]
  refine AW.V k_4_41 ((c_turn (by omega) (hs.fr hσ.2.1 (fun a h1 h2 => p2 a (by omega) (by omega))) hσ hr hh p1 (wl_wf hσ hw))) rfl rfl rfl rfl rfl rfl (fun r1 m1 hq => ?_)
  rename_i m2
  obtain ⟨rfl, p3, p4⟩ := hq
  repeat refine AW.s rfl ?_
  try dsimp only [List.set_cons_zero, List.set_cons_succ, Option.toList_some, Option.toList_none, List.cons_append, List.nil_append]
  exact AW.rv rfl rfl ⟨rfl, p3, fun a h1 h2 => by rw [p4 a h1 h2, p2 a h1 h2]⟩
end
section
theorem c_becomeY {l : Launch} {X : XT} {d : Nat} {h g : Nat} {m : Mem} {o : Option (List Nat)} (hd : 1 ≤ d) (hy : RY m g o) (ho : WFo o) (hgh : g + 1 < h ∨ h + 1 < g) : Meth l X d M_X4_become [vR 5 h, vR 5 g] m (fun r m' => r = none ∧ RY m' h o ∧ ∀ a, a ≠ h → a ≠ h + 1 → m' a = m a) := by
  obtain ⟨d, rfl⟩ : ∃ e, d = e + 1 := ⟨d - 1, by omega⟩
  refine E_X4_become (ls := [vR 5 h, vR 5 g]) rfl rfl ?_
  repeat refine AW.s rfl ?_
  try dsimp only [List.set_cons_zero, List.set_cons_succ, Option.toList_some, Option.toList_none, List.cons_append, List.nil_append]
  rw [mUp_s]
  cases o with
  | none =>
    have hy : m g 1 = -1 := hy
    rw [hy]
    refine AW.b rfl (fun hc => ?_) (fun hc => ?_)
    · exact absurd hc (by decide)
    · exact AW.rv rfl rfl ⟨rfl, mUp_s _ _ _ _, fun a h1 _ => mUp_a h1⟩
  | some xs =>
    obtain ⟨g1, g2, g3⟩ := ho xs rfl
    rw [hy.1]
    refine AW.b rfl (fun hc => ?_) (fun hc => ?_)
    · repeat refine AW.s rfl ?_
      try dsimp only [List.set_cons_zero, List.set_cons_succ, Option.toList_some, Option.toList_none, List.cons_append, List.nil_append]
      rw [mUp_s]
      refine AW.cpy k_4_27 rfl rfl rfl rfl (by decide) (by decide) (nI_pos (by omega)) ?_ ?_ ?_
      · rw [nI_clamp (by omega)]; show 0 + xs.length ≤ 40; omega
      · rw [nI_clamp (by omega)]; show 0 + xs.length ≤ 40; omega
      rw [nI_clamp (by omega)]
      try dsimp only [List.set_cons_zero, List.set_cons_succ, Option.toList_some, Option.toList_none, List.cons_append, List.nil_append]
      refine AW.rv rfl rfl ⟨rfl, ⟨?_, fun k x hk => ?_⟩, fun a h1 h2 => ?_⟩
      · rw [mSr_n (by omega), mUp_s]
      · have hk1 := (List.getElem?_eq_some_iff.mp hk).1
        rw [mSr_s, show (0 : Int32).toNatClampNeg = 0 from rfl, pk_cpy_in (Nat.zero_le _) (by show k < 0 + xs.length; omega), mUp_a (by omega)]
        have := hy.2 k x hk
        rw [← this]
        congr 1
        show 0 + (k - 0) = k; omega
      · rw [mSr_n h2, mUp_a h1]
    · exact absurd (nI_lt (a := 0) (by omega) (by omega)) hc
def ansO (o : Option (List Nat)) (k : Int32) : Int32 := match o with
  | none => -3
  | some xs => if k = -1 then nI xs.length else if k < 0 then -1 else if k < nI xs.length then nI (xs.getD k.toNatClampNeg 0) else -1
theorem ansO_some {xs : List Nat} {k : Int32} : ansO (some xs) k = if k = -1 then nI xs.length else if k < 0 then -1 else if k < nI xs.length then nI (xs.getD k.toNatClampNeg 0) else -1 := rfl
theorem c_answer {l : Launch} {X : XT} {d : Nat} {h : Nat} {k : Int32} {m : Mem} {o : Option (List Nat)} (hd : 1 ≤ d) (hy : RY m h o) (ho : WFo o) : Meth l X d M_X4_answer [vR 5 h, vI k] m (fun r m' => r = some (vI (ansO o k)) ∧ m' = m) := by
  obtain ⟨d, rfl⟩ : ∃ e, d = e + 1 := ⟨d - 1, by omega⟩
  refine E_X4_answer (ls := [vR 5 h, vI k]) rfl rfl ?_
  repeat refine AW.s rfl ?_
  try dsimp only [List.set_cons_zero, List.set_cons_succ, Option.toList_some, Option.toList_none, List.cons_append, List.nil_append]
  refine AW.V k_4_50 (c_isTooLong) rfl rfl rfl rfl rfl rfl (fun r1 m1 hq => ?_)
  obtain ⟨rfl, rfl⟩ := hq
  try dsimp only [List.set_cons_zero, List.set_cons_succ, Option.toList_some, Option.toList_none, List.cons_append, List.nil_append]
  cases o with
  | none =>
    have hy : m1 h 1 = -1 := hy
    rw [if_pos hy]
    refine AW.b rfl (fun hc => ?_) (fun hc => ?_)
    · exact absurd hc (by decide)
    · repeat refine AW.s rfl ?_
      try dsimp only [List.set_cons_zero, List.set_cons_succ, Option.toList_some, Option.toList_none, List.cons_append, List.nil_append]
      exact AW.ri rfl rfl rfl ⟨rfl, rfl⟩
  | some xs =>
    obtain ⟨g1, g2, g3⟩ := ho xs rfl
    rw [if_neg (by rw [hy.1]; exact nI_m1 (by omega))]
    refine AW.b rfl (fun hc => ?_) (fun hc => ?_)
    · repeat refine AW.s rfl ?_
      try dsimp only [List.set_cons_zero, List.set_cons_succ, Option.toList_some, Option.toList_none, List.cons_append, List.nil_append]
      refine AW.b rfl (fun hc => ?_) (fun hc => ?_)
      · repeat refine AW.s rfl ?_
        try dsimp only [List.set_cons_zero, List.set_cons_succ, Option.toList_some, Option.toList_none, List.cons_append, List.nil_append]
        rw [hy.1]
        refine AW.ri rfl rfl rfl ⟨?_, rfl⟩
        rw [ansO_some, if_pos hc]
      · have hk1 := hc
        repeat refine AW.s rfl ?_
        try dsimp only [List.set_cons_zero, List.set_cons_succ, Option.toList_some, Option.toList_none, List.cons_append, List.nil_append]
        refine AW.b rfl (fun hc => ?_) (fun hc => ?_)
        · repeat refine AW.s rfl ?_
          try dsimp only [List.set_cons_zero, List.set_cons_succ, Option.toList_some, Option.toList_none, List.cons_append, List.nil_append]
          refine AW.ri rfl rfl rfl ⟨?_, rfl⟩
          rw [ansO_some, if_neg hk1, if_pos hc]
        · have hk2 := hc
          repeat refine AW.s rfl ?_
          try dsimp only [List.set_cons_zero, List.set_cons_succ, Option.toList_some, Option.toList_none, List.cons_append, List.nil_append]
          rw [hy.1]
          refine AW.b rfl (fun hc => ?_) (fun hc => ?_)
          · obtain ⟨j, hj, rfl⟩ := nI_of hk2
            have hlt : j < xs.length := (nI_ltI hj (by omega)).mp hc
            obtain ⟨x, hx⟩ : ∃ x, xs[j]? = some x := ⟨_, List.getElem?_eq_getElem hlt⟩
            repeat refine AW.s rfl ?_
            try dsimp only [List.set_cons_zero, List.set_cons_succ, Option.toList_some, Option.toList_none, List.cons_append, List.nil_append]
            refine AW.c rfl (vp_in_nI (by omega) (by decide)) ?_
            try dsimp only [List.set_cons_zero, List.set_cons_succ, Option.toList_some, Option.toList_none, List.cons_append, List.nil_append]
            rw [nI_clamp hj, hy.2 j x hx]
            repeat refine AW.s rfl ?_
            try dsimp only [List.set_cons_zero, List.set_cons_succ, Option.toList_some, Option.toList_none, List.cons_append, List.nil_append]
            refine AW.ri rfl rfl rfl ⟨?_, rfl⟩
            rw [ansO_some, if_neg hk1, if_neg hk2, if_pos hc, nI_clamp hj, List.getD_eq_getElem?_getD, hx]
            rfl
          · repeat refine AW.s rfl ?_
            try dsimp only [List.set_cons_zero, List.set_cons_succ, Option.toList_some, Option.toList_none, List.cons_append, List.nil_append]
            refine AW.ri rfl rfl rfl ⟨?_, rfl⟩
            rw [ansO_some, if_neg hk1, if_neg hk2, if_neg hc]
    · exact absurd rfl hc
def likeO (o1 o2 : Option (List Nat)) : Bool := o1.isSome && decide (o1 = o2)
theorem take_same {xs ys : List Nat} {i x y : Nat} (hx : xs[i]? = some x) (hy : ys[i]? = some y) (e : x = y) (h : xs.take i = ys.take i) : xs.take (i + 1) = ys.take (i + 1) := by
  rw [List.take_add_one, List.take_add_one, hx, hy, h, e]
theorem c_isLike {l : Launch} {X : XT} {d : Nat} {h g : Nat} {m : Mem} {o1 o2 : Option (List Nat)} (hd : 1 ≤ d) (hy1 : RY m h o1) (ho1 : WFo o1) (hy2 : RY m g o2) (ho2 : WFo o2) : Meth l X d M_X4_isLike [vR 5 h, vR 5 g] m (fun r m' => r = some (vI (if likeO o1 o2 then 1 else 0)) ∧ m' = m) := by
  obtain ⟨d, rfl⟩ : ∃ e, d = e + 1 := ⟨d - 1, by omega⟩
  refine E_X4_isLike (ls := [vR 5 h, vR 5 g, vU]) rfl rfl ?_
  repeat refine AW.s rfl ?_
  try dsimp only [List.set_cons_zero, List.set_cons_succ, Option.toList_some, Option.toList_none, List.cons_append, List.nil_append]
  refine AW.V k_4_50 (c_isTooLong) rfl rfl rfl rfl rfl rfl (fun r1 m1 hq => ?_)
  obtain ⟨rfl, rfl⟩ := hq
  try dsimp only [List.set_cons_zero, List.set_cons_succ, Option.toList_some, Option.toList_none, List.cons_append, List.nil_append]
  cases o1 with
  | none =>
    have hy1 : m1 h 1 = -1 := hy1
    rw [if_pos hy1]
    refine AW.b rfl (fun hc => ?_) (fun hc => ?_)
    · exact absurd hc (by decide)
    · repeat refine AW.s rfl ?_
      try dsimp only [List.set_cons_zero, List.set_cons_succ, Option.toList_some, Option.toList_none, List.cons_append, List.nil_append]
      exact AW.ri rfl rfl rfl ⟨rfl, rfl⟩
  | some xs =>
    obtain ⟨a1, a2, a3⟩ := ho1 xs rfl
    rw [if_neg (show ¬ m1 h 1 = -1 by rw [hy1.1]; exact nI_m1 (by omega))]
    refine AW.b rfl (fun hc => ?_) (fun hc => ?_)
    · repeat refine AW.s rfl ?_
      try dsimp only [List.set_cons_zero, List.set_cons_succ, Option.toList_some, Option.toList_none, List.cons_append, List.nil_append]
      rw [hy1.1]
      cases o2 with
      | none =>
        have hy2 : m1 g 1 = -1 := hy2
        rw [hy2]
        refine AW.b rfl (fun hc => ?_) (fun hc => ?_)
        · exact absurd hc (nI_m1 (by omega))
        · repeat refine AW.s rfl ?_
          try dsimp only [List.set_cons_zero, List.set_cons_succ, Option.toList_some, Option.toList_none, List.cons_append, List.nil_append]
          exact AW.ri rfl rfl rfl ⟨rfl, rfl⟩
      | some ys =>
        obtain ⟨b1, b2, b3⟩ := ho2 ys rfl
        rw [hy2.1]
        refine AW.b rfl (fun hc => ?_) (fun hc => ?_)
        · have hlen : xs.length = ys.length := (nI_eq (by omega) (by omega)).mp hc
          repeat refine AW.u 22 rfl rfl ?_
          try dsimp only [List.set_cons_zero, List.set_cons_succ, Option.toList_some, Option.toList_none, List.cons_append, List.nil_append]
          refine AW.loop (pc := 22) (σ := Unit) xs.length (fun i _ => [vR 5 h, vR 5 g, vI (nI i)]) (fun i _ m2 => m2 = m1 ∧ xs.take i = ys.take i) (fun i _ m2 hi hm2 ih => ?_) 0 () m1 (Nat.zero_le _) ⟨rfl, rfl⟩
          obtain ⟨rfl, htk⟩ := hm2
          repeat refine AW.s rfl ?_
          try dsimp only [List.set_cons_zero, List.set_cons_succ, Option.toList_some, Option.toList_none, List.cons_append, List.nil_append]
          rw [hy1.1]
          refine AW.b rfl (fun hc => ?_) (fun hc => ?_)
          · have hlt : i < xs.length := (nI_ltI (by omega) (by omega)).mp hc
            obtain ⟨x, hx⟩ : ∃ x, xs[i]? = some x := ⟨_, List.getElem?_eq_getElem hlt⟩
            obtain ⟨y, hy⟩ : ∃ y, ys[i]? = some y := ⟨_, List.getElem?_eq_getElem (by omega)⟩
            have x26 := a1 x (List.mem_of_getElem? hx)
            have y26 := b1 y (List.mem_of_getElem? hy)
            repeat refine AW.s rfl ?_
            try dsimp only [List.set_cons_zero, List.set_cons_succ, Option.toList_some, Option.toList_none, List.cons_append, List.nil_append]
            refine AW.c rfl (vp_in_nI (by omega) (by decide)) ?_
            try dsimp only [List.set_cons_zero, List.set_cons_succ, Option.toList_some, Option.toList_none, List.cons_append, List.nil_append]
            rw [nI_clamp (by omega), hy1.2 i x hx]
            repeat refine AW.s rfl ?_
            try dsimp only [List.set_cons_zero, List.set_cons_succ, Option.toList_some, Option.toList_none, List.cons_append, List.nil_append]
            refine AW.c rfl (vp_in_nI (by omega) (by decide)) ?_
            try dsimp only [List.set_cons_zero, List.set_cons_succ, Option.toList_some, Option.toList_none, List.cons_append, List.nil_append]
            rw [nI_clamp (by omega), hy2.2 i y hy]
            refine AW.b rfl (fun hc => ?_) (fun hc => ?_)
            · have exy : x = y := (nI_eq (by omega) (by omega)).mp hc
              repeat refine AW.u 22 rfl rfl ?_
              try dsimp only [List.set_cons_zero, List.set_cons_succ, Option.toList_some, Option.toList_none, List.cons_append, List.nil_append]
              rw [nI_1]
              exact ih () _ hlt ⟨rfl, take_same hx hy exy htk⟩
            · repeat refine AW.s rfl ?_
              try dsimp only [List.set_cons_zero, List.set_cons_succ, Option.toList_some, Option.toList_none, List.cons_append, List.nil_append]
              refine AW.ri rfl rfl rfl ⟨?_, rfl⟩
              have : likeO (some xs) (some ys) = false := by
                unfold likeO
                simp only [Option.isSome_some, Bool.true_and, decide_eq_false_iff_not]
                intro e
                cases e
                rw [hx] at hy
                cases hy
                exact hc rfl
              rw [this]
              rfl
          · have : i = xs.length := by
              have : ¬ i < xs.length := fun q => hc ((nI_ltI (by omega) (by omega)).mpr q)
              omega
            subst this
            repeat refine AW.s rfl ?_
            try dsimp only [List.set_cons_zero, List.set_cons_succ, Option.toList_some, Option.toList_none, List.cons_append, List.nil_append]
            refine AW.ri rfl rfl rfl ⟨?_, rfl⟩
            rw [List.take_length, hlen, List.take_length] at htk
            subst htk
            simp [likeO]
        · repeat refine AW.s rfl ?_
          try dsimp only [List.set_cons_zero, List.set_cons_succ, Option.toList_some, Option.toList_none, List.cons_append, List.nil_append]
          refine AW.ri rfl rfl rfl ⟨?_, rfl⟩
          have : likeO (some xs) (some ys) = false := by
            unfold likeO
            simp only [Option.isSome_some, Bool.true_and, decide_eq_false_iff_not]
            intro e
            cases e
            exact hc rfl
          rw [this]
          rfl
    · exact absurd rfl hc
theorem c_isWord {l : Launch} {X : XT} {d : Nat} {h w : Nat} {m : Mem} {σ : Sg} {o : Option (List Nat)} (hs : RepS m 1 σ) (hσ : WF σ) (hw : w < σ 0 1) (hy1 : RY m h o) (ho1 : WFo o) : Meth l X d M_X4_isWord [vR 5 h, vR 8 1, vI (nI w)] m (fun r m' => r = some (vI (if o = some (wl σ w) then 1 else 0)) ∧ m' = m) := by
  obtain ⟨-, -, -, -, hs5, -⟩ := hs
  obtain ⟨-, w2, -, -, -, w6, -⟩ := hσ
  obtain ⟨q1, q2, q3⟩ := hs5 w hw
  obtain ⟨g1, g2, -, g4⟩ := w6 w hw
  have q1 : m 11 w = nI (σ 1 w) := q1
  refine E_X4_isWord (ls := [vR 5 h, vR 8 1, vI (nI w), vU]) rfl rfl ?_
  repeat refine AW.s rfl ?_
  try dsimp only [List.set_cons_zero, List.set_cons_succ, Option.toList_some, Option.toList_none, List.cons_append, List.nil_append]
  refine AW.c rfl (vp_in_nI (by omega) (by decide)) ?_
  try dsimp only [List.set_cons_zero, List.set_cons_succ, Option.toList_some, Option.toList_none, List.cons_append, List.nil_append]
  rw [nI_clamp (by omega), q1]
  cases o with
  | none =>
    have hy1 : m h 1 = -1 := hy1
    rw [hy1]
    refine AW.b rfl (fun hc => ?_) (fun hc => ?_)
    · exact absurd hc.symm (nI_m1 (by omega))
    · repeat refine AW.s rfl ?_
      try dsimp only [List.set_cons_zero, List.set_cons_succ, Option.toList_some, Option.toList_none, List.cons_append, List.nil_append]
      exact AW.ri rfl rfl rfl ⟨rfl, rfl⟩
  | some xs =>
    obtain ⟨a1, a2, a3⟩ := ho1 xs rfl
    rw [hy1.1]
    refine AW.b rfl (fun hc => ?_) (fun hc => ?_)
    · have hlen : xs.length = σ 1 w := (nI_eq (by omega) (by omega)).mp hc
      repeat refine AW.u 17 rfl rfl ?_
      try dsimp only [List.set_cons_zero, List.set_cons_succ, Option.toList_some, Option.toList_none, List.cons_append, List.nil_append]
      refine AW.loop (pc := 17) (σ := Unit) xs.length (fun i _ => [vR 5 h, vR 8 1, vI (nI w), vI (nI i)]) (fun i _ m2 => m2 = m ∧ xs.take i = (wl σ w).take i) (fun i _ m2 hi hm2 ih => ?_) 0 () m (Nat.zero_le _) ⟨rfl, rfl⟩
      obtain ⟨rfl, htk⟩ := hm2
      repeat refine AW.s rfl ?_
      try dsimp only [List.set_cons_zero, List.set_cons_succ, Option.toList_some, Option.toList_none, List.cons_append, List.nil_append]
      rw [hy1.1]
      refine AW.b rfl (fun hc => ?_) (fun hc => ?_)
      · have hlt : i < xs.length := (nI_ltI (by omega) (by omega)).mp hc
        obtain ⟨x, hx⟩ : ∃ x, xs[i]? = some x := ⟨_, List.getElem?_eq_getElem hlt⟩
        have x26 := a1 x (List.mem_of_getElem? hx)
        have y26 := g4 i (by omega)
        repeat refine AW.s rfl ?_
        try dsimp only [List.set_cons_zero, List.set_cons_succ, Option.toList_some, Option.toList_none, List.cons_append, List.nil_append]
        refine AW.c rfl (vp_in_nI (by omega) (by decide)) ?_
        try dsimp only [List.set_cons_zero, List.set_cons_succ, Option.toList_some, Option.toList_none, List.cons_append, List.nil_append]
        rw [nI_clamp (by omega), hy1.2 i x hx]
        repeat refine AW.s rfl ?_
        try dsimp only [List.set_cons_zero, List.set_cons_succ, Option.toList_some, Option.toList_none, List.cons_append, List.nil_append]
        refine AW.c rfl (vp_in_nI (by omega) (by decide)) ?_
        try dsimp only [List.set_cons_zero, List.set_cons_succ, Option.toList_some, Option.toList_none, List.cons_append, List.nil_append]
        rw [nI_clamp (by omega)]
        repeat refine AW.s rfl ?_
        try dsimp only [List.set_cons_zero, List.set_cons_succ, Option.toList_some, Option.toList_none, List.cons_append, List.nil_append]
        refine AW.c rfl (vp_in_nI (by omega) (by decide)) ?_
        try dsimp only [List.set_cons_zero, List.set_cons_succ, Option.toList_some, Option.toList_none, List.cons_append, List.nil_append]
        rw [nI_clamp (by omega)]
        have hval : m2 (1 + 1 + 1 + 1 * w) i = nI (σ (10 + w) i) := by
          rw [← q3 i (by omega)]
          congr 1
          omega
        rw [show m2 (2 + 1 + 1 * w) i = nI (σ (10 + w) i) from hval]
        refine AW.b rfl (fun hc => ?_) (fun hc => ?_)
        · have exy : x = σ (10 + w) i := (nI_eq (by omega) (by omega)).mp hc
          repeat refine AW.u 17 rfl rfl ?_
          try dsimp only [List.set_cons_zero, List.set_cons_succ, Option.toList_some, Option.toList_none, List.cons_append, List.nil_append]
          rw [nI_1]
          exact ih () _ hlt ⟨rfl, take_same hx (wl_at (by omega)) exy htk⟩
        · repeat refine AW.s rfl ?_
          try dsimp only [List.set_cons_zero, List.set_cons_succ, Option.toList_some, Option.toList_none, List.cons_append, List.nil_append]
          refine AW.ri rfl rfl rfl ⟨?_, rfl⟩
          rw [if_neg]
          intro e
          cases e
          obtain ⟨-, rfl⟩ := wl_get hx
          exact hc rfl
      · have : i = xs.length := by
          have : ¬ i < xs.length := fun q => hc ((nI_ltI (by omega) (by omega)).mpr q)
          omega
        subst this
        repeat refine AW.s rfl ?_
        try dsimp only [List.set_cons_zero, List.set_cons_succ, Option.toList_some, Option.toList_none, List.cons_append, List.nil_append]
        refine AW.ri rfl rfl rfl ⟨?_, rfl⟩
        rw [List.take_length, hlen, ← wl_len (σ := σ) (w := w), List.take_length] at htk
        rw [if_pos (by rw [htk])]
    · repeat refine AW.s rfl ?_
      try dsimp only [List.set_cons_zero, List.set_cons_succ, Option.toList_some, Option.toList_none, List.cons_append, List.nil_append]
      refine AW.ri rfl rfl rfl ⟨?_, rfl⟩
      rw [if_neg]
      intro e
      cases e
      rw [wl_len] at hc
      exact hc rfl
def diffN (xs ys : List Nat) : Nat := (xs.zip ys).countP (fun p => !(p.1 == p.2))
theorem diffN_take {xs ys : List Nat} {i x y : Nat} (hx : xs[i]? = some x) (hy : ys[i]? = some y) : diffN (xs.take (i + 1)) (ys.take (i + 1)) = diffN (xs.take i) (ys.take i) + (if x = y then 0 else 1) := by
  have h1 : i < xs.length := (List.getElem?_eq_some_iff.mp hx).1
  have h2 : i < ys.length := (List.getElem?_eq_some_iff.mp hy).1
  unfold diffN
  rw [List.take_add_one, List.take_add_one, hx, hy, List.zip_append (by rw [List.length_take, List.length_take]; omega), List.countP_append]
  congr 1
  by_cases e : x = y <;> simp [e]
theorem c_differences {l : Launch} {X : XT} {d : Nat} {h g : Nat} {m : Mem} {xs ys : List Nat} (hy1 : RY m h (some xs)) (ho1 : WFo (some xs)) (hy2 : RY m g (some ys)) (ho2 : WFo (some ys)) (hlen : xs.length = ys.length) : Meth l X d M_X4_differences [vR 5 h, vR 5 g] m (fun r m' => r = some (vI (nI (diffN xs ys))) ∧ m' = m) := by
  obtain ⟨a1, a2, a3⟩ := ho1 xs rfl
  obtain ⟨b1, b2, b3⟩ := ho2 ys rfl
  refine E_X4_differences (ls := [vR 5 h, vR 5 g, vU, vU]) rfl rfl ?_
  repeat refine AW.u 4 rfl rfl ?_
  try dsimp only [List.set_cons_zero, List.set_cons_succ, Option.toList_some, Option.toList_none, List.cons_append, List.nil_append]
  refine AW.loop (pc := 4) (σ := Unit) xs.length (fun i _ => [vR 5 h, vR 5 g, vI (nI (diffN (xs.take i) (ys.take i))), vI (nI i)]) (fun i _ m2 => m2 = m) (fun i _ m2 hi hm2 ih => ?_) 0 () m (Nat.zero_le _) rfl
  subst hm2
  repeat refine AW.s rfl ?_
  try dsimp only [List.set_cons_zero, List.set_cons_succ, Option.toList_some, Option.toList_none, List.cons_append, List.nil_append]
  rw [hy1.1]
  refine AW.b rfl (fun hc => ?_) (fun hc => ?_)
  · have hlt : i < xs.length := (nI_ltI (by omega) (by omega)).mp hc
    obtain ⟨x, hx⟩ : ∃ x, xs[i]? = some x := ⟨_, List.getElem?_eq_getElem hlt⟩
    obtain ⟨y, hy⟩ : ∃ y, ys[i]? = some y := ⟨_, List.getElem?_eq_getElem (by omega)⟩
    have x26 := a1 x (List.mem_of_getElem? hx)
    have y26 := b1 y (List.mem_of_getElem? hy)
    repeat refine AW.s rfl ?_
    try dsimp only [List.set_cons_zero, List.set_cons_succ, Option.toList_some, Option.toList_none, List.cons_append, List.nil_append]
    refine AW.c rfl (vp_in_nI (by omega) (by decide)) ?_
    try dsimp only [List.set_cons_zero, List.set_cons_succ, Option.toList_some, Option.toList_none, List.cons_append, List.nil_append]
    rw [nI_clamp (by omega), hy1.2 i x hx]
    repeat refine AW.s rfl ?_
    try dsimp only [List.set_cons_zero, List.set_cons_succ, Option.toList_some, Option.toList_none, List.cons_append, List.nil_append]
    refine AW.c rfl (vp_in_nI (by omega) (by decide)) ?_
    try dsimp only [List.set_cons_zero, List.set_cons_succ, Option.toList_some, Option.toList_none, List.cons_append, List.nil_append]
    rw [nI_clamp (by omega), hy2.2 i y hy]
    have hdt := diffN_take hx hy
    refine AW.b rfl (fun hc => ?_) (fun hc => ?_)
    · have exy : x = y := (nI_eq (by omega) (by omega)).mp hc
      repeat refine AW.u 4 rfl rfl ?_
      try dsimp only [List.set_cons_zero, List.set_cons_succ, Option.toList_some, Option.toList_none, List.cons_append, List.nil_append]
      rw [if_pos exy] at hdt
      have hdt : diffN (xs.take (i + 1)) (ys.take (i + 1)) = diffN (xs.take i) (ys.take i) := hdt
      rw [← hdt, nI_1]
      exact ih () _ hlt rfl
    · rw [if_neg (fun q => hc (by rw [q]))] at hdt
      repeat refine AW.u 4 rfl rfl ?_
      try dsimp only [List.set_cons_zero, List.set_cons_succ, Option.toList_some, Option.toList_none, List.cons_append, List.nil_append]
      rw [nI_1, nI_1, ← hdt]
      exact ih () _ hlt rfl
  · have : i = xs.length := by
      have : ¬ i < xs.length := fun q => hc ((nI_ltI (by omega) (by omega)).mpr q)
      omega
    subst this
    repeat refine AW.s rfl ?_
    try dsimp only [List.set_cons_zero, List.set_cons_succ, Option.toList_some, Option.toList_none, List.cons_append, List.nil_append]
    rw [List.take_length, hlen, List.take_length]
    exact AW.ri rfl rfl rfl ⟨rfl, rfl⟩
end
section
/-- a Sayings holds these -/
def RepYs (m : Mem) (H n : Nat) (f : Nat → Option (List Nat)) : Prop := m H 1 = nI n ∧ ∀ w, w < n → RY m (H + 1 + 1 + 2 * w) (f w)
theorem RepYs.fr {m m' : Mem} {H n : Nat} {f : Nat → Option (List Nat)} (h : RepYs m H n f) (hn : n ≤ 8) (hf : ∀ a, H ≤ a → a ≤ H + 17 → m' a = m a) : RepYs m' H n f := ⟨by rw [hf H (by omega) (by omega)]; exact h.1, fun w hw => (h.2 w hw).fr (hf _ (by omega) (by omega)) (hf _ (by omega) (by omega))⟩
theorem c_beginAll {l : Launch} {X : XT} {d : Nat} {H : Nat} {m : Mem} {σ : Sg} (hd : 2 ≤ d) (hs : RepS m 1 σ) (hσ : WF σ) (hH : 18 ≤ H) : Meth l X d M_X5_begin [vR 6 H, vR 8 1] m (fun r1 m' => r1 = none ∧ RepYs m' H (σ 0 1) (fun w => some (wl σ w)) ∧ ∀ a, (a < H ∨ H + 17 < a) → m' a = m a) := by
  obtain ⟨d, rfl⟩ : ∃ e, d = e + 1 := ⟨d - 1, by omega⟩
  have hn := hσ.2.1
  refine E_X5_begin (ls := [vR 6 H, vR 8 1, vU]) rfl rfl ?_
  repeat refine AW.u 10 rfl rfl ?_
  try dsimp only [List.set_cons_zero, List.set_cons_succ, Option.toList_some, Option.toList_none, List.cons_append, List.nil_append]
  have hW : m 1 4 = nI (σ 0 1) := hs.2.1
  rw [hW]
  refine AW.loop (pc := 10) (σ := Unit) (σ 0 1) (fun i _ => [vR 6 H, vR 8 1, vI (nI i)]) (fun i _ m1 => (∀ a, (a < H ∨ H + 17 < a) → m1 a = m a) ∧ m1 H 1 = nI (σ 0 1) ∧ ∀ w, w < i → RY m1 (H + 1 + 1 + 2 * w) (some (wl σ w))) (fun i _ m1 hi hm1 ih => ?_) 0 () _ (Nat.zero_le _) ⟨fun a ha => mUp_a (by omega), mUp_s _ _ _ _, fun w hw => absurd hw (by omega)⟩
  obtain ⟨hf, hz, hv⟩ := hm1
  repeat refine AW.s rfl ?_
  try dsimp only [List.set_cons_zero, List.set_cons_succ, Option.toList_some, Option.toList_none, List.cons_append, List.nil_append]
  rw [hz]
  refine AW.b rfl (fun hc => ?_) (fun hc => ?_)
  · have hlt : i < σ 0 1 := (nI_ltI (by omega) (by omega)).mp hc
    repeat refine AW.s rfl ?_
    try dsimp only [List.set_cons_zero, List.set_cons_succ, Option.toList_some, Option.toList_none, List.cons_append, List.nil_append]
    refine AW.c rfl (vp_in_nI (by omega) (by decide)) ?_
    try dsimp only [List.set_cons_zero, List.set_cons_succ, Option.toList_some, Option.toList_none, List.cons_append, List.nil_append]
    rw [nI_clamp (by omega)]
    repeat refine AW.s rfl ?_
    try dsimp only [List.set_cons_zero, List.set_cons_succ, Option.toList_some, Option.toList_none, List.cons_append, List.nil_append]
    refine AW.V k_5_27 ((c_begin (by omega) (hs.fr hσ.2.1 (fun a h1 h2 => hf a (by omega))) hσ hlt (by omega))) rfl rfl rfl rfl rfl rfl (fun r1 m1 hq => ?_)
    rename_i m2
    obtain ⟨rfl, p1, p2⟩ := hq
    repeat refine AW.u 10 rfl rfl ?_
    try dsimp only [List.set_cons_zero, List.set_cons_succ, Option.toList_some, Option.toList_none, List.cons_append, List.nil_append]
    rw [nI_1]
    refine ih () _ hlt ⟨fun a ha => by rw [p2 a (by omega) (by omega)]; exact hf a ha, by rw [p2 H (by omega) (by omega)]; exact hz, fun w hw => ?_⟩
    by_cases e : w = i
    · subst e; exact p1
    · exact (hv w (by omega)).fr (p2 _ (by omega) (by omega)) (p2 _ (by omega) (by omega))
  · have : i = σ 0 1 := by
      have : ¬ i < σ 0 1 := fun q => hc ((nI_ltI (by omega) (by omega)).mpr q)
      omega
    subst this
    exact AW.rv rfl rfl ⟨rfl, ⟨hz, hv⟩, hf⟩
theorem c_sayAll {l : Launch} {X : XT} {d : Nat} {H ρ : Nat} {m : Mem} {σ : Sg} {rw : List Nat} (hd : 4 ≤ d) (hs : RepS m 1 σ) (hσ : WF σ) (hrw : WFr σ rw) (hρ : RepR m ρ rw) (hH : 18 ≤ H) (hρH : ρ + 1 < H ∨ H + 17 < ρ) : Meth l X d M_X5_sayAll [vR 6 H, vR 8 1, vR 4 ρ] m (fun r1 m' => r1 = none ∧ RepYs m' H (σ 0 1) (saidS σ rw) ∧ ∀ a, (a < H ∨ H + 17 < a) → m' a = m a) := by
  obtain ⟨d, rfl⟩ : ∃ e, d = e + 1 := ⟨d - 1, by omega⟩
  have hn := hσ.2.1
  refine E_X5_sayAll (ls := [vR 6 H, vR 8 1, vR 4 ρ, vU]) rfl rfl ?_
  repeat refine AW.u 10 rfl rfl ?_
  try dsimp only [List.set_cons_zero, List.set_cons_succ, Option.toList_some, Option.toList_none, List.cons_append, List.nil_append]
  have hW : m 1 4 = nI (σ 0 1) := hs.2.1
  rw [hW]
  refine AW.loop (pc := 10) (σ := Unit) (σ 0 1) (fun i _ => [vR 6 H, vR 8 1, vR 4 ρ, vI (nI i)]) (fun i _ m1 => (∀ a, (a < H ∨ H + 17 < a) → m1 a = m a) ∧ m1 H 1 = nI (σ 0 1) ∧ ∀ w, w < i → RY m1 (H + 1 + 1 + 2 * w) (saidS σ rw w)) (fun i _ m1 hi hm1 ih => ?_) 0 () _ (Nat.zero_le _) ⟨fun a ha => mUp_a (by omega), mUp_s _ _ _ _, fun w hw => absurd hw (by omega)⟩
  obtain ⟨hf, hz, hv⟩ := hm1
  repeat refine AW.s rfl ?_
  try dsimp only [List.set_cons_zero, List.set_cons_succ, Option.toList_some, Option.toList_none, List.cons_append, List.nil_append]
  rw [hz]
  refine AW.b rfl (fun hc => ?_) (fun hc => ?_)
  · have hlt : i < σ 0 1 := (nI_ltI (by omega) (by omega)).mp hc
    repeat refine AW.s rfl ?_
    try dsimp only [List.set_cons_zero, List.set_cons_succ, Option.toList_some, Option.toList_none, List.cons_append, List.nil_append]
    refine AW.c rfl (vp_in_nI (by omega) (by decide)) ?_
    try dsimp only [List.set_cons_zero, List.set_cons_succ, Option.toList_some, Option.toList_none, List.cons_append, List.nil_append]
    rw [nI_clamp (by omega)]
    repeat refine AW.s rfl ?_
    try dsimp only [List.set_cons_zero, List.set_cons_succ, Option.toList_some, Option.toList_none, List.cons_append, List.nil_append]
    refine AW.V k_5_27 ((c_begin (by omega) (hs.fr hσ.2.1 (fun a h1 h2 => hf a (by omega))) hσ hlt (by omega))) rfl rfl rfl rfl rfl rfl (fun r1 m1 hq => ?_)
    rename_i m2
    obtain ⟨rfl, p1, p2⟩ := hq
    repeat refine AW.s rfl ?_
    try dsimp only [List.set_cons_zero, List.set_cons_succ, Option.toList_some, Option.toList_none, List.cons_append, List.nil_append]
    refine AW.c rfl (vp_in_nI (by omega) (by decide)) ?_
    try dsimp only [List.set_cons_zero, List.set_cons_succ, Option.toList_some, Option.toList_none, List.cons_append, List.nil_append]
    rw [nI_clamp (by omega)]
    repeat refine AW.s rfl ?_
    try dsimp only [List.set_cons_zero, List.set_cons_succ, Option.toList_some, Option.toList_none, List.cons_append, List.nil_append]
    refine AW.V k_5_31 ((c_turnByRow (ρ := ρ) (rw := rw) (by omega) (hs.fr hσ.2.1 (fun a h1 h2 => by rw [p2 a (by omega) (by omega)]; exact hf a (by omega))) hσ hrw (hρ.fr (by rw [p2 ρ (by omega) (by omega)]; exact hf ρ (by omega)) (by rw [p2 (ρ + 1) (by omega) (by omega)]; exact hf (ρ + 1) (by omega))) (by omega) (by omega) p1 (wl_wf hσ hlt))) rfl rfl rfl rfl rfl rfl (fun r1 m1 hq => ?_)
    rename_i m3
    obtain ⟨rfl, p3, p4⟩ := hq
    repeat refine AW.u 10 rfl rfl ?_
    try dsimp only [List.set_cons_zero, List.set_cons_succ, Option.toList_some, Option.toList_none, List.cons_append, List.nil_append]
    rw [nI_1]
    refine ih () _ hlt ⟨fun a ha => by rw [p4 a (by omega) (by omega), p2 a (by omega) (by omega)]; exact hf a ha, by rw [p4 H (by omega) (by omega), p2 H (by omega) (by omega)]; exact hz, fun w hw => ?_⟩
    by_cases e : w = i
    · subst e; exact p3
    · exact (hv w (by omega)).fr (by rw [p4 _ (by omega) (by omega), p2 _ (by omega) (by omega)]) (by rw [p4 _ (by omega) (by omega), p2 _ (by omega) (by omega)])
  · have : i = σ 0 1 := by
      have : ¬ i < σ 0 1 := fun q => hc ((nI_ltI (by omega) (by omega)).mpr q)
      omega
    subst this
    exact AW.rv rfl rfl ⟨rfl, ⟨hz, hv⟩, hf⟩
theorem c_becomeTurned {l : Launch} {X : XT} {d : Nat} {H K n r : Nat} {m : Mem} {σ : Sg} {f : Nat → Option (List Nat)} (hd : 3 ≤ d) (hs : RepS m 1 σ) (hσ : WF σ) (hr : r < σ 0 2) (hn : n ≤ 8) (hK : RepYs m K n f) (hfw : ∀ w, w < n → WFo (f w)) (hH : 18 ≤ H) (hKH : K + 17 < H ∨ H + 17 < K) : Meth l X d M_X5_becomeTurned [vR 6 H, vR 6 K, vR 8 1, vI (nI r)] m (fun r1 m' => r1 = none ∧ RepYs m' H n (fun w => turnS σ r (f w)) ∧ ∀ a, (a < H ∨ H + 17 < a) → m' a = m a) := by
  obtain ⟨d, rfl⟩ : ∃ e, d = e + 1 := ⟨d - 1, by omega⟩
  refine E_X5_becomeTurned (ls := [vR 6 H, vR 6 K, vR 8 1, vI (nI r), vU]) rfl rfl ?_
  repeat refine AW.u 11 rfl rfl ?_
  try dsimp only [List.set_cons_zero, List.set_cons_succ, Option.toList_some, Option.toList_none, List.cons_append, List.nil_append]
  rw [hK.1]
  refine AW.loop (pc := 11) (σ := Unit) n (fun i _ => [vR 6 H, vR 6 K, vR 8 1, vI (nI r), vI (nI i)]) (fun i _ m1 => (∀ a, (a < H ∨ H + 17 < a) → m1 a = m a) ∧ m1 H 1 = nI n ∧ ∀ w, w < i → RY m1 (H + 1 + 1 + 2 * w) (turnS σ r (f w))) (fun i _ m1 hi hm1 ih => ?_) 0 () _ (Nat.zero_le _) ⟨fun a ha => mUp_a (by omega), mUp_s _ _ _ _, fun w hw => absurd hw (by omega)⟩
  obtain ⟨hf, hz, hv⟩ := hm1
  repeat refine AW.s rfl ?_
  try dsimp only [List.set_cons_zero, List.set_cons_succ, Option.toList_some, Option.toList_none, List.cons_append, List.nil_append]
  rw [hz]
  refine AW.b rfl (fun hc => ?_) (fun hc => ?_)
  · have hlt : i < n := (nI_ltI (by omega) (by omega)).mp hc
    repeat refine AW.s rfl ?_
    try dsimp only [List.set_cons_zero, List.set_cons_succ, Option.toList_some, Option.toList_none, List.cons_append, List.nil_append]
    refine AW.c rfl (vp_in_nI (by omega) (by decide)) ?_
    try dsimp only [List.set_cons_zero, List.set_cons_succ, Option.toList_some, Option.toList_none, List.cons_append, List.nil_append]
    rw [nI_clamp (by omega)]
    repeat refine AW.s rfl ?_
    try dsimp only [List.set_cons_zero, List.set_cons_succ, Option.toList_some, Option.toList_none, List.cons_append, List.nil_append]
    refine AW.c rfl (vp_in_nI (by omega) (by decide)) ?_
    try dsimp only [List.set_cons_zero, List.set_cons_succ, Option.toList_some, Option.toList_none, List.cons_append, List.nil_append]
    rw [nI_clamp (by omega)]
    refine AW.V k_5_35 ((c_becomeY (by omega) ((hK.2 i hlt).fr (hf _ (by omega)) (hf _ (by omega))) (hfw i hlt) (by omega))) rfl rfl rfl rfl rfl rfl (fun r1 m1 hq => ?_)
    rename_i m2
    obtain ⟨rfl, p1, p2⟩ := hq
    repeat refine AW.s rfl ?_
    try dsimp only [List.set_cons_zero, List.set_cons_succ, Option.toList_some, Option.toList_none, List.cons_append, List.nil_append]
    refine AW.c rfl (vp_in_nI (by omega) (by decide)) ?_
    try dsimp only [List.set_cons_zero, List.set_cons_succ, Option.toList_some, Option.toList_none, List.cons_append, List.nil_append]
    rw [nI_clamp (by omega)]
    repeat refine AW.s rfl ?_
    try dsimp only [List.set_cons_zero, List.set_cons_succ, Option.toList_some, Option.toList_none, List.cons_append, List.nil_append]
    refine AW.V k_5_39 ((c_turn (by omega) (hs.fr hσ.2.1 (fun a h1 h2 => by rw [p2 a (by omega) (by omega)]; exact hf a (by omega))) hσ hr (by omega) p1 (hfw i hlt))) rfl rfl rfl rfl rfl rfl (fun r1 m1 hq => ?_)
    rename_i m3
    obtain ⟨rfl, p3, p4⟩ := hq
    repeat refine AW.u 11 rfl rfl ?_
    try dsimp only [List.set_cons_zero, List.set_cons_succ, Option.toList_some, Option.toList_none, List.cons_append, List.nil_append]
    rw [nI_1]
    refine ih () _ hlt ⟨fun a ha => by rw [p4 a (by omega) (by omega), p2 a (by omega) (by omega)]; exact hf a ha, by rw [p4 H (by omega) (by omega), p2 H (by omega) (by omega)]; exact hz, fun w hw => ?_⟩
    by_cases e : w = i
    · subst e; exact p3
    · exact (hv w (by omega)).fr (by rw [p4 _ (by omega) (by omega), p2 _ (by omega) (by omega)]) (by rw [p4 _ (by omega) (by omega), p2 _ (by omega) (by omega)])
  · have : i = n := by
      have : ¬ i < n := fun q => hc ((nI_ltI (by omega) (by omega)).mpr q)
      omega
    subst this
    exact AW.rv rfl rfl ⟨rfl, ⟨hz, hv⟩, hf⟩
def alikeP (n : Nat) (f : Nat → Option (List Nat)) (i : Nat) : Prop := i < n ∧ ∃ j, j < n ∧ j ≠ i ∧ likeO (f i) (f j) = true
theorem likeO_symm {a b : Option (List Nat)} (h : likeO a b = true) : likeO b a = true := by
  unfold likeO at h ⊢
  simp only [Bool.and_eq_true, decide_eq_true_eq] at h ⊢
  exact ⟨by rw [← h.2]; exact h.1, h.2.symm⟩
/-- pairs looked at: all of the first i words, and of word i those with words below j -/
def pairP (n : Nat) (f : Nat → Option (List Nat)) (i j b : Nat) : Prop := ∃ p q, p < q ∧ q < n ∧ (p < i ∨ (p = i ∧ q < j)) ∧ likeO (f p) (f q) = true ∧ (b = p ∨ b = q)
theorem c_alike {l : Launch} {X : XT} {d : Nat} {H n : Nat} {m : Mem} {f : Nat → Option (List Nat)} (hd : 2 ≤ d) (hn : n ≤ 8) (hK : RepYs m H n f) (hfw : ∀ w, w < n → WFo (f w)) : Meth l X d M_X5_alike [vR 6 H] m (fun r1 m' => ∃ x, r1 = some (vI x) ∧ isBits x (alikeP n f) ∧ m' = m) := by
  obtain ⟨d, rfl⟩ : ∃ e, d = e + 1 := ⟨d - 1, by omega⟩
  refine E_X5_alike (ls := [vR 6 H, vU, vU, vU]) rfl rfl ?_
  repeat refine AW.u 4 rfl rfl ?_
  try dsimp only [List.set_cons_zero, List.set_cons_succ, Option.toList_some, Option.toList_none, List.cons_append, List.nil_append]
  refine AW.loop (pc := 4) (σ := Int32) n (fun i x => [vR 6 H, vI x, vI (nI i), vU]) (fun i x m1 => m1 = m ∧ isBits x (pairP n f i 0)) (fun i x m1 hi hm1 ih => ?_) 0 0 m (Nat.zero_le _) ⟨rfl, isBits.zero.to (fun b => ⟨fun q => absurd q id, fun ⟨p, q, _, _, h, _⟩ => by omega⟩)⟩
  obtain ⟨rfl, hb⟩ := hm1
  repeat refine AW.s rfl ?_
  try dsimp only [List.set_cons_zero, List.set_cons_succ, Option.toList_some, Option.toList_none, List.cons_append, List.nil_append]
  rw [hK.1]
  refine AW.b rfl (fun hc => ?_) (fun hc => ?_)
  · have hlt : i < n := (nI_ltI (by omega) (by omega)).mp hc
    repeat refine AW.u 16 rfl rfl ?_
    try dsimp only [List.set_cons_zero, List.set_cons_succ, Option.toList_some, Option.toList_none, List.cons_append, List.nil_append]
    rw [nI_1]
    refine AW.loop (pc := 16) (σ := Int32) n (fun j x => [vR 6 H, vI x, vI (nI i), vI (nI j)]) (fun j x m2 => m2 = m1 ∧ i < j ∧ isBits x (pairP n f i j)) (fun j x m2 hj hm2 ih2 => ?_) (i + 1) x m1 (by omega) ⟨rfl, by omega, hb.to (fun b => ⟨fun ⟨p, q, h1, h2, h3, h4⟩ => ⟨p, q, h1, h2, by omega, h4⟩, fun ⟨p, q, h1, h2, h3, h4⟩ => ⟨p, q, h1, h2, by omega, h4⟩⟩)⟩
    obtain ⟨rfl, hij, hb2⟩ := hm2
    repeat refine AW.s rfl ?_
    try dsimp only [List.set_cons_zero, List.set_cons_succ, Option.toList_some, Option.toList_none, List.cons_append, List.nil_append]
    rw [hK.1]
    refine AW.b rfl (fun hc => ?_) (fun hc => ?_)
    · have hlt2 : j < n := (nI_ltI (by omega) (by omega)).mp hc
      repeat refine AW.s rfl ?_
      try dsimp only [List.set_cons_zero, List.set_cons_succ, Option.toList_some, Option.toList_none, List.cons_append, List.nil_append]
      refine AW.c rfl (vp_in_nI (by omega) (by decide)) ?_
      try dsimp only [List.set_cons_zero, List.set_cons_succ, Option.toList_some, Option.toList_none, List.cons_append, List.nil_append]
      rw [nI_clamp (by omega)]
      repeat refine AW.s rfl ?_
      try dsimp only [List.set_cons_zero, List.set_cons_succ, Option.toList_some, Option.toList_none, List.cons_append, List.nil_append]
      refine AW.c rfl (vp_in_nI (by omega) (by decide)) ?_
      try dsimp only [List.set_cons_zero, List.set_cons_succ, Option.toList_some, Option.toList_none, List.cons_append, List.nil_append]
      rw [nI_clamp (by omega)]
      refine AW.V k_5_42 ((c_isLike (by omega) (hK.2 i hlt) (hfw i hlt) (hK.2 j hlt2) (hfw j hlt2))) rfl rfl rfl rfl rfl rfl (fun r1 m1 hq => ?_)
      obtain ⟨rfl, rfl⟩ := hq
      try dsimp only [List.set_cons_zero, List.set_cons_succ, Option.toList_some, Option.toList_none, List.cons_append, List.nil_append]
      refine AW.b rfl (fun hc => ?_) (fun hc => ?_)
      · have hno : likeO (f i) (f j) = false := by
          by_cases q : likeO (f i) (f j) = true
          · rw [q] at hc; exact absurd hc (by decide)
          · simpa using q
        repeat refine AW.u 16 rfl rfl ?_
        try dsimp only [List.set_cons_zero, List.set_cons_succ, Option.toList_some, Option.toList_none, List.cons_append, List.nil_append]
        rw [nI_1]
        refine ih2 _ _ hlt2 ⟨rfl, by omega, hb2.to (fun b => ⟨fun ⟨p, q, h1, h2, h3, h4⟩ => ⟨p, q, h1, h2, by omega, h4⟩, fun ⟨p, q, h1, h2, h3, h4, h5⟩ => ?_⟩)⟩
        by_cases e : p = i ∧ q = j
        · obtain ⟨rfl, rfl⟩ := e; rw [hno] at h4; cases h4
        · exact ⟨p, q, h1, h2, by omega, h4, h5⟩
      · have hyes : likeO (f i) (f j) = true := by
          by_cases q : likeO (f i) (f j) = true
          · exact q
          · rw [if_neg q] at hc; exact absurd rfl hc
        repeat refine AW.u 16 rfl rfl ?_
        try dsimp only [List.set_cons_zero, List.set_cons_succ, Option.toList_some, Option.toList_none, List.cons_append, List.nil_append]
        rw [nI_1]
        · refine ih2 _ _ hlt2 ⟨rfl, by omega, (hb2.or2 (k := i) (j := j) (by omega) (by omega)).to (fun b => ⟨fun q => ?_, fun ⟨p, q, h1, h2, h3, h4, h5⟩ => ?_⟩)⟩
          · rcases q with ⟨p, q, h1, h2, h3, h4⟩ | q
            · exact ⟨p, q, h1, h2, by omega, h4⟩
            · exact ⟨i, j, hij, hlt2, by omega, hyes, q⟩
          · by_cases e : p = i ∧ q = j
            · obtain ⟨rfl, rfl⟩ := e; exact Or.inr h5
            · exact Or.inl ⟨p, q, h1, h2, by omega, h4, h5⟩
    · have : j = n := by
        have : ¬ j < n := fun q => hc ((nI_ltI (by omega) (by omega)).mpr q)
        omega
      subst this
      repeat refine AW.u 4 rfl rfl ?_
      try dsimp only [List.set_cons_zero, List.set_cons_succ, Option.toList_some, Option.toList_none, List.cons_append, List.nil_append]
      refine AW.fg 3 ?_
      try dsimp only [List.set_cons_zero, List.set_cons_succ, Option.toList_some, Option.toList_none, List.cons_append, List.nil_append]
      rw [nI_1]
      refine ih _ _ hlt ⟨rfl, hb2.to (fun b => ⟨fun ⟨p, q, h1, h2, h3, h4⟩ => ⟨p, q, h1, h2, by omega, h4⟩, fun ⟨p, q, h1, h2, h3, h4⟩ => ⟨p, q, h1, h2, by omega, h4⟩⟩)⟩
  · have : i = n := by
      have : ¬ i < n := fun q => hc ((nI_ltI (by omega) (by omega)).mpr q)
      omega
    subst this
    repeat refine AW.s rfl ?_
    try dsimp only [List.set_cons_zero, List.set_cons_succ, Option.toList_some, Option.toList_none, List.cons_append, List.nil_append]
    refine AW.ri rfl rfl rfl ⟨_, rfl, hb.to (fun b => ⟨fun ⟨p, q, h1, h2, h3, h4, h5⟩ => ?_, fun ⟨h1, j, h2, h3, h4⟩ => ?_⟩), rfl⟩
    · rcases h5 with rfl | rfl
      · exact ⟨by omega, q, h2, by omega, h4⟩
      · exact ⟨h2, p, by omega, by omega, likeO_symm h4⟩
    · rcases Nat.lt_or_ge b j with q | q
      · exact ⟨b, j, q, h2, Or.inl h1, h4, Or.inl rfl⟩
      · exact ⟨j, b, by omega, h1, Or.inl h2, likeO_symm h4, Or.inr rfl⟩
end
section
theorem c_tooLongs {l : Launch} {X : XT} {d : Nat} {H n : Nat} {m : Mem} {f : Nat → Option (List Nat)} (hd : 1 ≤ d) (hn : n ≤ 8) (hK : RepYs m H n f) (hfw : ∀ w, w < n → WFo (f w)) : Meth l X d M_X5_tooLong [vR 6 H] m (fun r1 m' => ∃ x, r1 = some (vI x) ∧ isBits x (fun i => i < n ∧ f i = none) ∧ m' = m) := by
  obtain ⟨d, rfl⟩ : ∃ e, d = e + 1 := ⟨d - 1, by omega⟩
  refine E_X5_tooLong (ls := [vR 6 H, vU, vU]) rfl rfl ?_
  repeat refine AW.u 4 rfl rfl ?_
  try dsimp only [List.set_cons_zero, List.set_cons_succ, Option.toList_some, Option.toList_none, List.cons_append, List.nil_append]
  refine AW.loop (pc := 4) (σ := Int32) n (fun i x => [vR 6 H, vI x, vI (nI i)]) (fun i x m1 => m1 = m ∧ isBits x (fun b => b < i ∧ f b = none)) (fun i x m1 hi hm1 ih => ?_) 0 0 m (Nat.zero_le _) ⟨rfl, isBits.zero.to (fun b => ⟨fun q => absurd q id, fun q => absurd q.1 (by omega)⟩)⟩
  obtain ⟨rfl, hb⟩ := hm1
  repeat refine AW.s rfl ?_
  try dsimp only [List.set_cons_zero, List.set_cons_succ, Option.toList_some, Option.toList_none, List.cons_append, List.nil_append]
  rw [hK.1]
  refine AW.b rfl (fun hc => ?_) (fun hc => ?_)
  · have hlt : i < n := (nI_ltI (by omega) (by omega)).mp hc
    repeat refine AW.s rfl ?_
    try dsimp only [List.set_cons_zero, List.set_cons_succ, Option.toList_some, Option.toList_none, List.cons_append, List.nil_append]
    refine AW.c rfl (vp_in_nI (by omega) (by decide)) ?_
    try dsimp only [List.set_cons_zero, List.set_cons_succ, Option.toList_some, Option.toList_none, List.cons_append, List.nil_append]
    rw [nI_clamp (by omega)]
    refine AW.V k_5_46 (c_isTooLong) rfl rfl rfl rfl rfl rfl (fun r1 m1 hq => ?_)
    obtain ⟨rfl, rfl⟩ := hq
    try dsimp only [List.set_cons_zero, List.set_cons_succ, Option.toList_some, Option.toList_none, List.cons_append, List.nil_append]
    have hy := hK.2 i hlt
    cases hfi : f i with
    | none =>
      rw [hfi] at hy
      rw [if_pos (show m1 (H + 1 + 1 + 2 * i) 1 = -1 from hy)]
      refine AW.b rfl (fun hc => ?_) (fun hc => ?_)
      · exact absurd hc (by decide)
      · repeat refine AW.u 4 rfl rfl ?_
        try dsimp only [List.set_cons_zero, List.set_cons_succ, Option.toList_some, Option.toList_none, List.cons_append, List.nil_append]
        rw [nI_1]
        refine ih _ _ hlt ⟨rfl, (hb.or (k := i) (by omega)).to (fun b => ⟨fun q => ?_, fun q => ?_⟩)⟩
        · rcases q with q | rfl
          · exact ⟨by omega, q.2⟩
          · exact ⟨by omega, hfi⟩
        · by_cases e : b = i
          · exact Or.inr e
          · exact Or.inl ⟨by omega, q.2⟩
    | some xs =>
      rw [hfi] at hy
      obtain ⟨a1, a2, a3⟩ := hfw i hlt xs hfi
      rw [if_neg (show ¬ m1 (H + 1 + 1 + 2 * i) 1 = -1 by rw [hy.1]; exact nI_m1 (by omega))]
      refine AW.b rfl (fun hc => ?_) (fun hc => ?_)
      · repeat refine AW.u 4 rfl rfl ?_
        try dsimp only [List.set_cons_zero, List.set_cons_succ, Option.toList_some, Option.toList_none, List.cons_append, List.nil_append]
        rw [nI_1]
        refine ih _ _ hlt ⟨rfl, hb.to (fun b => ⟨fun q => ⟨by omega, q.2⟩, fun q => ?_⟩)⟩
        by_cases e : b = i
        · subst e; rw [hfi] at q; cases q.2
        · exact ⟨by omega, q.2⟩
      · exact absurd rfl hc
  · have : i = n := by
      have : ¬ i < n := fun q => hc ((nI_ltI (by omega) (by omega)).mpr q)
      omega
    subst this
    repeat refine AW.s rfl ?_
    try dsimp only [List.set_cons_zero, List.set_cons_succ, Option.toList_some, Option.toList_none, List.cons_append, List.nil_append]
    exact AW.ri rfl rfl rfl ⟨_, rfl, hb, rfl⟩
theorem c_hasAnother {l : Launch} {X : XT} {d : Nat} {H n g w : Nat} {m : Mem} {f : Nat → Option (List Nat)} {o : Option (List Nat)} (hd : 2 ≤ d) (hn : n ≤ 8) (hw : w < n) (hK : RepYs m H n f) (hfw : ∀ w, w < n → WFo (f w)) (hy : RY m g o) (ho : WFo o) : Meth l X d M_X5_hasAnother [vR 6 H, vR 5 g, vI (nI w)] m (fun r1 m' => ∃ x, r1 = some (vI (if x then 1 else 0)) ∧ (x = true ↔ ∃ j, j < n ∧ j ≠ w ∧ likeO o (f j) = true) ∧ m' = m) := by
  obtain ⟨d, rfl⟩ : ∃ e, d = e + 1 := ⟨d - 1, by omega⟩
  refine E_X5_hasAnother (ls := [vR 6 H, vR 5 g, vI (nI w), vU]) rfl rfl ?_
  repeat refine AW.u 2 rfl rfl ?_
  try dsimp only [List.set_cons_zero, List.set_cons_succ, Option.toList_some, Option.toList_none, List.cons_append, List.nil_append]
  refine AW.loop (pc := 2) (σ := Unit) n (fun i x => [vR 6 H, vR 5 g, vI (nI w), vI (nI i)]) (fun i x m1 => m1 = m ∧ ∀ j, j < i → j ≠ w → likeO o (f j) = false) (fun i x m1 hi hm1 ih => ?_) 0 () m (Nat.zero_le _) ⟨rfl, fun j hj => absurd hj (by omega)⟩
  obtain ⟨rfl, hb⟩ := hm1
  repeat refine AW.s rfl ?_
  try dsimp only [List.set_cons_zero, List.set_cons_succ, Option.toList_some, Option.toList_none, List.cons_append, List.nil_append]
  rw [hK.1]
  refine AW.b rfl (fun hc => ?_) (fun hc => ?_)
  · have hlt : i < n := (nI_ltI (by omega) (by omega)).mp hc
    repeat refine AW.s rfl ?_
    try dsimp only [List.set_cons_zero, List.set_cons_succ, Option.toList_some, Option.toList_none, List.cons_append, List.nil_append]
    refine AW.b rfl (fun hc => ?_) (fun hc => ?_)
    · have e : i = w := (nI_eq (by omega) (by omega)).mp hc
      repeat refine AW.u 2 rfl rfl ?_
      try dsimp only [List.set_cons_zero, List.set_cons_succ, Option.toList_some, Option.toList_none, List.cons_append, List.nil_append]
      rw [nI_1]
      refine ih () _ hlt ⟨rfl, fun j hj hjw => hb j (by have : j ≠ i := fun q => hjw (by omega); omega) hjw⟩
    · have e : ¬ i = w := fun q => hc (by rw [q])
      repeat refine AW.s rfl ?_
      try dsimp only [List.set_cons_zero, List.set_cons_succ, Option.toList_some, Option.toList_none, List.cons_append, List.nil_append]
      refine AW.c rfl (vp_in_nI (by omega) (by decide)) ?_
      try dsimp only [List.set_cons_zero, List.set_cons_succ, Option.toList_some, Option.toList_none, List.cons_append, List.nil_append]
      rw [nI_clamp (by omega)]
      refine AW.V k_5_42 ((c_isLike (by omega) hy ho (hK.2 i hlt) (hfw i hlt))) rfl rfl rfl rfl rfl rfl (fun r1 m1 hq => ?_)
      obtain ⟨rfl, rfl⟩ := hq
      try dsimp only [List.set_cons_zero, List.set_cons_succ, Option.toList_some, Option.toList_none, List.cons_append, List.nil_append]
      refine AW.b rfl (fun hc => ?_) (fun hc => ?_)
      · have hno : likeO o (f i) = false := by
          by_cases q : likeO o (f i) = true
          · rw [q] at hc; exact absurd hc (by decide)
          · simpa using q
        repeat refine AW.u 2 rfl rfl ?_
        try dsimp only [List.set_cons_zero, List.set_cons_succ, Option.toList_some, Option.toList_none, List.cons_append, List.nil_append]
        rw [nI_1]
        refine ih () _ hlt ⟨rfl, fun j hj hjw => ?_⟩
        by_cases e2 : j = i
        · subst e2; exact hno
        · exact hb j (by omega) hjw
      · have hyes : likeO o (f i) = true := by
          by_cases q : likeO o (f i) = true
          · exact q
          · rw [if_neg q] at hc; exact absurd rfl hc
        repeat refine AW.s rfl ?_
        try dsimp only [List.set_cons_zero, List.set_cons_succ, Option.toList_some, Option.toList_none, List.cons_append, List.nil_append]
        exact AW.ri rfl rfl rfl ⟨true, rfl, ⟨fun _ => ⟨i, hlt, e, hyes⟩, fun _ => rfl⟩, rfl⟩
  · have : i = n := by
      have : ¬ i < n := fun q => hc ((nI_ltI (by omega) (by omega)).mpr q)
      omega
    subst this
    repeat refine AW.s rfl ?_
    try dsimp only [List.set_cons_zero, List.set_cons_succ, Option.toList_some, Option.toList_none, List.cons_append, List.nil_append]
    refine AW.ri rfl rfl rfl ⟨false, rfl, ⟨fun q => (by cases q), fun ⟨j, h1, h2, h3⟩ => ?_⟩, rfl⟩
    rw [hb j h1 h2] at h3
    cases h3
/-- two of the same length, neither too long: how many differ -/
def apD (f : Nat → Option (List Nat)) (p q d : Nat) : Prop := ∃ xs ys, f p = some xs ∧ f q = some ys ∧ xs.length = ys.length ∧ d = diffN xs ys
/-- the least of what those pairs say that S takes, or none -/
def isLeast (S : Nat → Prop) (x : Int32) : Prop := (x = -1 ∧ ∀ d, ¬ S d) ∨ ∃ d, d < 2 ^ 31 ∧ x = nI d ∧ S d ∧ ∀ e, S e → d ≤ e
theorem isLeast.uniq {S S' : Nat → Prop} {x y : Int32} (h1 : isLeast S x) (h2 : isLeast S' y) (h : ∀ d, S d ↔ S' d) : x = y := by
  rcases h1 with ⟨rfl, n1⟩ | ⟨a, -, rfl, a1, a2⟩
  · rcases h2 with ⟨rfl, -⟩ | ⟨b, -, rfl, b1, -⟩
    · rfl
    · exact absurd ((h b).mpr b1) (n1 b)
  · rcases h2 with ⟨rfl, n2⟩ | ⟨b, -, rfl, b1, b2⟩
    · exact absurd ((h a).mp a1) (n2 a)
    · have := a2 b ((h b).mpr b1)
      have := b2 a ((h a).mp a1)
      rw [show a = b by omega]
theorem isLeast.to {S S' : Nat → Prop} {x : Int32} (h1 : isLeast S x) (h : ∀ d, S d ↔ S' d) : isLeast S' x := by
  rcases h1 with ⟨rfl, n1⟩ | ⟨a, a0, rfl, a1, a2⟩
  · exact Or.inl ⟨rfl, fun d q => n1 d ((h d).mpr q)⟩
  · exact Or.inr ⟨a, a0, rfl, (h a).mp a1, fun e q => a2 e ((h e).mpr q)⟩
theorem isLeast.add {S : Nat → Prop} {x : Int32} {d : Nat} (h1 : isLeast S x) (hd : d < 2 ^ 31) : isLeast (fun e => S e ∨ e = d) (if x = -1 then nI d else if nI d < x then nI d else x) := by
  rcases h1 with ⟨rfl, n1⟩ | ⟨a, a0, rfl, a1, a2⟩
  · rw [if_pos rfl]
    exact Or.inr ⟨d, hd, rfl, Or.inr rfl, fun e q => by rcases q with q | q; exact absurd q (n1 e); omega⟩
  · rw [if_neg (nI_m1 a0)]
    by_cases q : d < a
    · rw [if_pos ((nI_ltI hd a0).mpr q)]
      exact Or.inr ⟨d, hd, rfl, Or.inr rfl, fun e z => by rcases z with z | z; have := a2 e z; omega; omega⟩
    · rw [if_neg (fun z => q ((nI_ltI hd a0).mp z))]
      exact Or.inr ⟨a, a0, rfl, Or.inl a1, fun e z => by rcases z with z | z; exact a2 e z; omega⟩
def apS (n : Nat) (f : Nat → Option (List Nat)) (i j d : Nat) : Prop := ∃ p q, p < q ∧ q < n ∧ (p < i ∨ (p = i ∧ q < j)) ∧ apD f p q d
theorem diffN_le (xs ys : List Nat) : diffN xs ys ≤ xs.length := by
  unfold diffN
  refine Nat.le_trans List.countP_le_length ?_
  rw [List.length_zip]
  omega
theorem c_apart {l : Launch} {X : XT} {d : Nat} {H n : Nat} {m : Mem} {f : Nat → Option (List Nat)} (hd : 2 ≤ d) (hn : n ≤ 8) (hK : RepYs m H n f) (hfw : ∀ w, w < n → WFo (f w)) : Meth l X d M_X5_apart [vR 6 H] m (fun r1 m' => ∃ x, r1 = some (vI x) ∧ isLeast (fun d => ∃ p q, p < q ∧ q < n ∧ apD f p q d) x ∧ m' = m) := by
  obtain ⟨d, rfl⟩ : ∃ e, d = e + 1 := ⟨d - 1, by omega⟩
  refine E_X5_apart (ls := [vR 6 H, vU, vU, vU, vU]) rfl rfl ?_
  repeat refine AW.u 4 rfl rfl ?_
  try dsimp only [List.set_cons_zero, List.set_cons_succ, Option.toList_some, Option.toList_none, List.cons_append, List.nil_append]
  refine AW.loop (pc := 4) (σ := Int32) n (fun i x => [vR 6 H, vI x, vI (nI i), vU, vU]) (fun i x m1 => m1 = m ∧ isLeast (apS n f i 0) x) (fun i x m1 hi hm1 ih => ?_) 0 (-1) m (Nat.zero_le _) ⟨rfl, Or.inl ⟨rfl, fun d ⟨p, q, _, _, h, _⟩ => by omega⟩⟩
  obtain ⟨rfl, hb⟩ := hm1
  repeat refine AW.s rfl ?_
  try dsimp only [List.set_cons_zero, List.set_cons_succ, Option.toList_some, Option.toList_none, List.cons_append, List.nil_append]
  rw [hK.1]
  refine AW.b rfl (fun hc => ?_) (fun hc => ?_)
  · have hlt : i < n := (nI_ltI (by omega) (by omega)).mp hc
    repeat refine AW.u 16 rfl rfl ?_
    try dsimp only [List.set_cons_zero, List.set_cons_succ, Option.toList_some, Option.toList_none, List.cons_append, List.nil_append]
    rw [nI_1]
    refine AW.loop (pc := 16) (σ := Int32) n (fun j x => [vR 6 H, vI x, vI (nI i), vI (nI j), vU]) (fun j x m2 => m2 = m1 ∧ i < j ∧ isLeast (apS n f i j) x) (fun j x m2 hj hm2 ih2 => ?_) (i + 1) x m1 (by omega) ⟨rfl, by omega, hb.to (fun b => ⟨fun ⟨p, q, h1, h2, h3, h4⟩ => ⟨p, q, h1, h2, by omega, h4⟩, fun ⟨p, q, h1, h2, h3, h4⟩ => ⟨p, q, h1, h2, by omega, h4⟩⟩)⟩
    obtain ⟨rfl, hij, hb2⟩ := hm2
    repeat refine AW.s rfl ?_
    try dsimp only [List.set_cons_zero, List.set_cons_succ, Option.toList_some, Option.toList_none, List.cons_append, List.nil_append]
    rw [hK.1]
    refine AW.b rfl (fun hc => ?_) (fun hc => ?_)
    · have hlt2 : j < n := (nI_ltI (by omega) (by omega)).mp hc
      have hskip : (∀ d, ¬ apD f i j d) → AW (GM l X (d + 1) M_X5_apart fun r1 m' => ∃ x, r1 = some (vI x) ∧ isLeast (fun d => ∃ p q, p < q ∧ q < n ∧ apD f p q d) x ∧ m' = m2) 91 [vR 6 H, vI x, vI (nI i), vI (nI j), vU] [] m2 := by
        intro hno
        repeat refine AW.u 16 rfl rfl ?_
        try dsimp only [List.set_cons_zero, List.set_cons_succ, Option.toList_some, Option.toList_none, List.cons_append, List.nil_append]
        rw [nI_1]
        refine ih2 _ _ hlt2 ⟨rfl, by omega, hb2.to (fun b => ⟨fun ⟨p, q, h1, h2, h3, h4⟩ => ⟨p, q, h1, h2, by omega, h4⟩, fun ⟨p, q, h1, h2, h3, h4⟩ => ?_⟩)⟩
        by_cases e : p = i ∧ q = j
        · obtain ⟨rfl, rfl⟩ := e; exact absurd h4 (hno b)
        · exact ⟨p, q, h1, h2, by omega, h4⟩
      have hyi := hK.2 i hlt
      have hyj := hK.2 j hlt2
      repeat refine AW.s rfl ?_
      try dsimp only [List.set_cons_zero, List.set_cons_succ, Option.toList_some, Option.toList_none, List.cons_append, List.nil_append]
      refine AW.c rfl (vp_in_nI (by omega) (by decide)) ?_
      try dsimp only [List.set_cons_zero, List.set_cons_succ, Option.toList_some, Option.toList_none, List.cons_append, List.nil_append]
      rw [nI_clamp (by omega)]
      refine AW.V k_5_46 (c_isTooLong) rfl rfl rfl rfl rfl rfl (fun r1 m1 hq => ?_)
      obtain ⟨rfl, rfl⟩ := hq
      try dsimp only [List.set_cons_zero, List.set_cons_succ, Option.toList_some, Option.toList_none, List.cons_append, List.nil_append]
      cases hfi : f i with
      | none =>
        rw [hfi] at hyi
        rw [if_pos (show m1 (H + 1 + 1 + 2 * i) 1 = -1 from hyi)]
        refine AW.b rfl (fun hc => ?_) (fun hc => ?_)
        · exact absurd hc (by decide)
        · exact hskip (fun d ⟨xs, ys, h1, _⟩ => by rw [hfi] at h1; cases h1)
      | some xs =>
        rw [hfi] at hyi
        have wi := hfw i hlt
        rw [hfi] at wi
        obtain ⟨a1, a2, a3⟩ := wi xs rfl
        rw [if_neg (show ¬ m1 (H + 1 + 1 + 2 * i) 1 = -1 by rw [hyi.1]; exact nI_m1 (by omega))]
        refine AW.b rfl (fun hc => ?_) (fun hc => ?_)
        · repeat refine AW.s rfl ?_
          try dsimp only [List.set_cons_zero, List.set_cons_succ, Option.toList_some, Option.toList_none, List.cons_append, List.nil_append]
          refine AW.c rfl (vp_in_nI (by omega) (by decide)) ?_
          try dsimp only [List.set_cons_zero, List.set_cons_succ, Option.toList_some, Option.toList_none, List.cons_append, List.nil_append]
          rw [nI_clamp (by omega)]
          repeat refine AW.s rfl ?_
          try dsimp only [List.set_cons_zero, List.set_cons_succ, Option.toList_some, Option.toList_none, List.cons_append, List.nil_append]
          refine AW.c rfl (vp_in_nI (by omega) (by decide)) ?_
          try dsimp only [List.set_cons_zero, List.set_cons_succ, Option.toList_some, Option.toList_none, List.cons_append, List.nil_append]
          rw [nI_clamp (by omega)]
          repeat refine AW.s rfl ?_
          try dsimp only [List.set_cons_zero, List.set_cons_succ, Option.toList_some, Option.toList_none, List.cons_append, List.nil_append]
          rw [hyi.1]
          cases hfj : f j with
          | none =>
            rw [hfj] at hyj
            rw [show m1 (H + 1 + 1 + 2 * j) 1 = -1 from hyj]
            refine AW.b rfl (fun hc => ?_) (fun hc => ?_)
            · exact absurd hc (nI_m1 (by omega))
            · exact hskip (fun d ⟨xs, ys, _, h1, _⟩ => by rw [hfj] at h1; cases h1)
          | some ys =>
            rw [hfj] at hyj
            have wj := hfw j hlt2
            rw [hfj] at wj
            obtain ⟨b1, b2, b3⟩ := wj ys rfl
            rw [hyj.1]
            refine AW.b rfl (fun hc => ?_) (fun hc => ?_)
            · have hlen : xs.length = ys.length := (nI_eq (by omega) (by omega)).mp hc
              repeat refine AW.s rfl ?_
              try dsimp only [List.set_cons_zero, List.set_cons_succ, Option.toList_some, Option.toList_none, List.cons_append, List.nil_append]
              refine AW.c rfl (vp_in_nI (by omega) (by decide)) ?_
              try dsimp only [List.set_cons_zero, List.set_cons_succ, Option.toList_some, Option.toList_none, List.cons_append, List.nil_append]
              rw [nI_clamp (by omega)]
              repeat refine AW.s rfl ?_
              try dsimp only [List.set_cons_zero, List.set_cons_succ, Option.toList_some, Option.toList_none, List.cons_append, List.nil_append]
              refine AW.c rfl (vp_in_nI (by omega) (by decide)) ?_
              try dsimp only [List.set_cons_zero, List.set_cons_succ, Option.toList_some, Option.toList_none, List.cons_append, List.nil_append]
              rw [nI_clamp (by omega)]
              refine AW.V k_5_51 ((c_differences hyi wi hyj wj hlen)) rfl rfl rfl rfl rfl rfl (fun r1 m1 hq => ?_)
              obtain ⟨rfl, rfl⟩ := hq
              have hdl := diffN_le xs ys
              have hadd := hb2.add (d := diffN xs ys) (by omega)
              have hfin : isLeast (apS n f i (j + 1)) (if x = -1 then nI (diffN xs ys) else if nI (diffN xs ys) < x then nI (diffN xs ys) else x) := hadd.to (fun b => ⟨fun q => ?_, fun ⟨p, q, h1, h2, h3, h4⟩ => ?_⟩)
              · repeat refine AW.s rfl ?_
                try dsimp only [List.set_cons_zero, List.set_cons_succ, Option.toList_some, Option.toList_none, List.cons_append, List.nil_append]
                refine AW.b rfl (fun hc => ?_) (fun hc => ?_)
                · rw [if_pos hc] at hfin
                  repeat refine AW.u 16 rfl rfl ?_
                  try dsimp only [List.set_cons_zero, List.set_cons_succ, Option.toList_some, Option.toList_none, List.cons_append, List.nil_append]
                  refine AW.fg 4 ?_
                  try dsimp only [List.set_cons_zero, List.set_cons_succ, Option.toList_some, Option.toList_none, List.cons_append, List.nil_append]
                  rw [nI_1]
                  exact ih2 _ _ hlt2 ⟨rfl, by omega, hfin⟩
                · rw [if_neg hc] at hfin
                  repeat refine AW.s rfl ?_
                  try dsimp only [List.set_cons_zero, List.set_cons_succ, Option.toList_some, Option.toList_none, List.cons_append, List.nil_append]
                  refine AW.mmin (G := GM l X (d + 1) M_X5_apart _) rfl k_5_55 rR1 (by decide) ?_
                  repeat refine AW.u 16 rfl rfl ?_
                  try dsimp only [List.set_cons_zero, List.set_cons_succ, Option.toList_some, Option.toList_none, List.cons_append, List.nil_append]
                  refine AW.fg 4 ?_
                  try dsimp only [List.set_cons_zero, List.set_cons_succ, Option.toList_some, Option.toList_none, List.cons_append, List.nil_append]
                  rw [nI_1]
                  exact ih2 _ _ hlt2 ⟨rfl, by omega, hfin⟩
              · rcases q with ⟨p, q, h1, h2, h3, h4⟩ | rfl
                · exact ⟨p, q, h1, h2, by omega, h4⟩
                · exact ⟨i, j, hij, hlt2, by omega, xs, ys, hfi, hfj, hlen, rfl⟩
              · by_cases e : p = i ∧ q = j
                · obtain ⟨rfl, rfl⟩ := e
                  obtain ⟨xs', ys', g1, g2, -, rfl⟩ := h4
                  rw [hfi] at g1
                  rw [hfj] at g2
                  cases g1
                  cases g2
                  exact Or.inr rfl
                · exact Or.inl ⟨p, q, h1, h2, by omega, h4⟩
            · have hne := hc
              refine hskip (fun d ⟨xs', ys', g1, g2, g3, _⟩ => ?_)
              rw [hfi] at g1
              rw [hfj] at g2
              cases g1
              cases g2
              exact hne (by rw [g3])
        · exact absurd rfl hc
    · have : j = n := by
        have : ¬ j < n := fun q => hc ((nI_ltI (by omega) (by omega)).mpr q)
        omega
      subst this
      repeat refine AW.u 4 rfl rfl ?_
      try dsimp only [List.set_cons_zero, List.set_cons_succ, Option.toList_some, Option.toList_none, List.cons_append, List.nil_append]
      refine AW.fg 3 ?_
      try dsimp only [List.set_cons_zero, List.set_cons_succ, Option.toList_some, Option.toList_none, List.cons_append, List.nil_append]
      rw [nI_1]
      refine ih _ _ hlt ⟨rfl, hb2.to (fun b => ⟨fun ⟨p, q, h1, h2, h3, h4⟩ => ⟨p, q, h1, h2, by omega, h4⟩, fun ⟨p, q, h1, h2, h3, h4⟩ => ⟨p, q, h1, h2, by omega, h4⟩⟩)⟩
  · have : i = n := by
      have : ¬ i < n := fun q => hc ((nI_ltI (by omega) (by omega)).mpr q)
      omega
    subst this
    repeat refine AW.s rfl ?_
    try dsimp only [List.set_cons_zero, List.set_cons_succ, Option.toList_some, Option.toList_none, List.cons_append, List.nil_append]
    refine AW.ri rfl rfl rfl ⟨_, rfl, hb.to (fun b => ⟨fun ⟨p, q, h1, h2, h3, h4⟩ => ⟨p, q, h1, h2, h4⟩, fun ⟨p, q, h1, h2, h4⟩ => ⟨p, q, h1, h2, Or.inl (by omega), h4⟩⟩), rfl⟩
end
section
theorem c_push {l : Launch} {X : XT} {d : Nat} {h r : Nat} {m : Mem} {rw : List Nat} (hr : RepR m h rw) (hl : rw.length < 8) : Meth l X d M_X3_push [vR 4 h, vI (nI r)] m (fun r1 m' => r1 = none ∧ RepR m' h (rw ++ [r]) ∧ ∀ a, a ≠ h → a ≠ h + 1 → m' a = m a) := by
  refine E_X3_push (ls := [vR 4 h, vI (nI r)]) rfl rfl ?_
  repeat refine AW.s rfl ?_
  try dsimp only [List.set_cons_zero, List.set_cons_succ, Option.toList_some, Option.toList_none, List.cons_append, List.nil_append]
  rw [hr.1]
  refine AW.b rfl (fun hc => ?_) (fun hc => ?_)
  · repeat refine AW.s rfl ?_
    try dsimp only [List.set_cons_zero, List.set_cons_succ, Option.toList_some, Option.toList_none, List.cons_append, List.nil_append]
    rw [hr.1]
    repeat refine AW.s rfl ?_
    try dsimp only [List.set_cons_zero, List.set_cons_succ, Option.toList_some, Option.toList_none, List.cons_append, List.nil_append]
    refine AW.c rfl (⟨vp_in_nI (by omega) (by decide), fun q => absurd q (by decide)⟩) ?_
    try dsimp only [List.set_cons_zero, List.set_cons_succ, Option.toList_some, Option.toList_none, List.cons_append, List.nil_append]
    rw [nI_clamp (by omega)]
    repeat refine AW.s rfl ?_
    try dsimp only [List.set_cons_zero, List.set_cons_succ, Option.toList_some, Option.toList_none, List.cons_append, List.nil_append]
    rw [mUp_a (show h ≠ h + 1 by omega), hr.1]
    refine AW.rv rfl rfl ⟨rfl, ⟨?_, fun k x hk => ?_⟩, fun a h1 h2 => by rw [mUp_a h1, mUp_a h2]⟩
    · rw [mUp_s, List.length_append]; exact nI_1 _
    · rw [mUp_a (show h + 1 ≠ h by omega)]
      by_cases e : k = rw.length
      · subst e
        rw [List.getElem?_append_right (Nat.le_refl _), Nat.sub_self] at hk
        cases hk
        exact mUp_s _ _ _ _
      · have hk2 : k < rw.length := by
          have := (List.getElem?_eq_some_iff.mp hk).1
          rw [List.length_append] at this
          have : k < rw.length + 1 := this
          omega
        rw [List.getElem?_append_left hk2] at hk
        rw [mUp_n (Or.inr e)]
        exact hr.2 k x hk
  · exact absurd (nI_lt (b := 8) hl (by decide)) hc
def lastI (rw : List Nat) : Int32 := match rw.getLast? with
  | none => -1
  | some r => nI r
theorem c_last {l : Launch} {X : XT} {d : Nat} {h : Nat} {m : Mem} {rw : List Nat} (hr : RepR m h rw) (hl : rw.length ≤ 8) : Meth l X d M_X3_last [vR 4 h] m (fun r1 m' => r1 = some (vI (lastI rw)) ∧ m' = m) := by
  refine E_X3_last (ls := [vR 4 h]) rfl rfl ?_
  repeat refine AW.s rfl ?_
  try dsimp only [List.set_cons_zero, List.set_cons_succ, Option.toList_some, Option.toList_none, List.cons_append, List.nil_append]
  rw [hr.1]
  refine AW.b rfl (fun hc => ?_) (fun hc => ?_)
  · have hpos : 0 < rw.length := by
      rcases Nat.eq_zero_or_pos rw.length with q | q
      · rw [q] at hc; exact absurd hc (by decide)
      · exact q
    repeat refine AW.s rfl ?_
    try dsimp only [List.set_cons_zero, List.set_cons_succ, Option.toList_some, Option.toList_none, List.cons_append, List.nil_append]
    rw [hr.1, show nI rw.length - 1 = nI (rw.length - 1) from pk_sub (b := 1) hpos]
    obtain ⟨x, hx⟩ : ∃ x, rw[rw.length - 1]? = some x := ⟨_, List.getElem?_eq_getElem (by omega)⟩
    refine AW.c rfl (vp_in_nI (by omega) (by decide)) ?_
    try dsimp only [List.set_cons_zero, List.set_cons_succ, Option.toList_some, Option.toList_none, List.cons_append, List.nil_append]
    rw [nI_clamp (by omega), hr.2 _ x hx]
    repeat refine AW.s rfl ?_
    try dsimp only [List.set_cons_zero, List.set_cons_succ, Option.toList_some, Option.toList_none, List.cons_append, List.nil_append]
    refine AW.ri rfl rfl rfl ⟨?_, rfl⟩
    unfold lastI
    rw [List.getLast?_eq_getElem?, hx]
  · have h0 : rw = [] := by
      cases rw with
      | nil => rfl
      | cons a r => exact absurd (nI_lt (a := 0) (by rw [List.length_cons]; omega) (by omega)) hc
    subst h0
    repeat refine AW.s rfl ?_
    try dsimp only [List.set_cons_zero, List.set_cons_succ, Option.toList_some, Option.toList_none, List.cons_append, List.nil_append]
    exact AW.ri rfl rfl rfl ⟨rfl, rfl⟩
theorem erase_take {rw : List Nat} {p i x : Nat} (hx : rw[i]? = some x) : (rw.take (i + 1)).eraseIdx p = if i = p then (rw.take i).eraseIdx p else (rw.take i).eraseIdx p ++ [x] := by
  have hlt : i < rw.length := (List.getElem?_eq_some_iff.mp hx).1
  have hl : (rw.take i).length = i := by rw [List.length_take]; omega
  rw [List.take_add_one, hx]
  show (rw.take i ++ [x]).eraseIdx p = _
  by_cases e : i = p
  · subst e
    rw [if_pos rfl, List.eraseIdx_append_of_length_le (by omega), hl, Nat.sub_self, show (rw.take i).eraseIdx i = rw.take i from List.eraseIdx_of_length_le (by omega)]
    simp
  · rw [if_neg e]
    by_cases q : p < i
    · rw [List.eraseIdx_append_of_lt_length (by omega)]
    · rw [List.eraseIdx_append_of_length_le (by omega), List.eraseIdx_of_length_le (l := [x]) (by simp [hl]; omega), List.eraseIdx_of_length_le (by omega)]
theorem c_becomeWithout {l : Launch} {X : XT} {d : Nat} {h ρ p : Nat} {m : Mem} {rw : List Nat} (hd : 1 ≤ d) (hr : RepR m ρ rw) (hl : rw.length ≤ 8) (hp : p < rw.length) (hρ : ρ + 1 < h ∨ h + 1 < ρ) : Meth l X d M_X3_becomeWithout [vR 4 h, vR 4 ρ, vI (nI p)] m (fun r1 m' => r1 = none ∧ RepR m' h (rw.eraseIdx p) ∧ ∀ a, a ≠ h → a ≠ h + 1 → m' a = m a) := by
  obtain ⟨d, rfl⟩ : ∃ e, d = e + 1 := ⟨d - 1, by omega⟩
  refine E_X3_becomeWithout (ls := [vR 4 h, vR 4 ρ, vI (nI p), vU]) rfl rfl ?_
  repeat refine AW.u 7 rfl rfl ?_
  try dsimp only [List.set_cons_zero, List.set_cons_succ, Option.toList_some, Option.toList_none, List.cons_append, List.nil_append]
  refine AW.loop (pc := 7) (σ := Unit) rw.length (fun i _ => [vR 4 h, vR 4 ρ, vI (nI p), vI (nI i)]) (fun i _ m1 => (∀ a, a ≠ h → a ≠ h + 1 → m1 a = m a) ∧ RepR m1 h ((rw.take i).eraseIdx p)) (fun i _ m1 hi hm1 ih => ?_) 0 () _ (Nat.zero_le _) ⟨fun a h1 _ => mUp_a h1, mUp_s _ _ _ _, fun k x hk => by simp at hk⟩
  obtain ⟨hf, hv⟩ := hm1
  have hsz : m1 ρ 1 = nI rw.length := by rw [hf ρ (by omega) (by omega)]; exact hr.1
  repeat refine AW.s rfl ?_
  try dsimp only [List.set_cons_zero, List.set_cons_succ, Option.toList_some, Option.toList_none, List.cons_append, List.nil_append]
  rw [hsz]
  refine AW.b rfl (fun hc => ?_) (fun hc => ?_)
  · have hlt : i < rw.length := (nI_ltI (by omega) (by omega)).mp hc
    obtain ⟨x, hx⟩ : ∃ x, rw[i]? = some x := ⟨_, List.getElem?_eq_getElem hlt⟩
    have het := erase_take (p := p) hx
    repeat refine AW.s rfl ?_
    try dsimp only [List.set_cons_zero, List.set_cons_succ, Option.toList_some, Option.toList_none, List.cons_append, List.nil_append]
    refine AW.b rfl (fun hc => ?_) (fun hc => ?_)
    · have e : i = p := (nI_eq (by omega) (by omega)).mp hc
      rw [if_pos e] at het
      repeat refine AW.u 7 rfl rfl ?_
      try dsimp only [List.set_cons_zero, List.set_cons_succ, Option.toList_some, Option.toList_none, List.cons_append, List.nil_append]
      rw [nI_1]
      refine ih () _ hlt ⟨hf, ?_⟩
      rw [het]; exact hv
    · have e : ¬ i = p := fun q => hc (by rw [q])
      rw [if_neg e] at het
      have hlen : ((rw.take i).eraseIdx p).length < 8 := by
        have : ((rw.take i).eraseIdx p).length ≤ (rw.take i).length := List.length_eraseIdx_le _ _
        rw [List.length_take] at this
        omega
      repeat refine AW.s rfl ?_
      try dsimp only [List.set_cons_zero, List.set_cons_succ, Option.toList_some, Option.toList_none, List.cons_append, List.nil_append]
      refine AW.c rfl (vp_in_nI (by omega) (by decide)) ?_
      try dsimp only [List.set_cons_zero, List.set_cons_succ, Option.toList_some, Option.toList_none, List.cons_append, List.nil_append]
      rw [nI_clamp (by omega), show m1 (ρ + 1) i = nI x by rw [hf (ρ + 1) (by omega) (by omega)]; exact hr.2 i x hx]
      refine AW.V k_3_25 ((c_push hv hlen)) rfl rfl rfl rfl rfl rfl (fun r1 m1 hq => ?_)
      rename_i m2
      obtain ⟨rfl, p1, p2⟩ := hq
      repeat refine AW.u 7 rfl rfl ?_
      try dsimp only [List.set_cons_zero, List.set_cons_succ, Option.toList_some, Option.toList_none, List.cons_append, List.nil_append]
      rw [nI_1]
      refine ih () _ hlt ⟨fun a h1 h2 => by rw [p2 a h1 h2]; exact hf a h1 h2, ?_⟩
      rw [het]; exact p1
  · have : i = rw.length := by
      have : ¬ i < rw.length := fun q => hc ((nI_ltI (by omega) (by omega)).mpr q)
      omega
    subst this
    rw [List.take_length] at hv
    exact AW.rv rfl rfl ⟨rfl, hv, hf⟩
theorem c_becomeR {l : Launch} {X : XT} {d : Nat} {h ρ : Nat} {m : Mem} (hd : 1 ≤ d) (hρ : ρ + 1 < h ∨ h + 1 < ρ) : Meth l X d M_X3_become [vR 4 h, vR 4 ρ] m (fun r1 m' => r1 = none ∧ m' h 1 = m ρ 1 ∧ (∀ k, k < 8 → m' (h + 1) k = m (ρ + 1) k) ∧ ∀ a, a ≠ h → a ≠ h + 1 → m' a = m a) := by
  obtain ⟨d, rfl⟩ : ∃ e, d = e + 1 := ⟨d - 1, by omega⟩
  refine E_X3_become (ls := [vR 4 h, vR 4 ρ]) rfl rfl ?_
  repeat refine AW.s rfl ?_
  try dsimp only [List.set_cons_zero, List.set_cons_succ, Option.toList_some, Option.toList_none, List.cons_append, List.nil_append]
  refine AW.cpy k_3_19 rfl rfl rfl rfl (by decide) (by decide) (by decide) (by decide) (by decide) ?_
  repeat refine AW.s rfl ?_
  try dsimp only [List.set_cons_zero, List.set_cons_succ, Option.toList_some, Option.toList_none, List.cons_append, List.nil_append]
  refine AW.rv rfl rfl ⟨rfl, ?_, fun k hk => ?_, fun a h1 h2 => ?_⟩
  · rw [mUp_s, mSr_n (by omega)]
  · rw [mUp_a (by omega), mSr_s, show (0 : Int32).toNatClampNeg = 0 from rfl, show (8 : Int32).toNatClampNeg = 8 from rfl, pk_cpy_in (Nat.zero_le _) (by omega)]
    congr 1
    omega
  · rw [mUp_a h1, mSr_n h2]
def fol (z : Int32) : Int32 := z * 1103515245 + 12345
def u9 (z : Int32) : Nat := z.toBitVec.toNat / 2 ^ 9
theorem nI_self (z : Int32) : nI z.toBitVec.toNat = z := by
  apply Int32.toBitVec_inj.1
  show BitVec.ofNat 32 z.toBitVec.toNat = z.toBitVec
  simp
theorem u9_lt (z : Int32) : u9 z < 2 ^ 23 := by
  have : z.toBitVec.toNat < 2 ^ 32 := z.toBitVec.isLt
  unfold u9
  omega
theorem ushr9 (z : Int32) : (z.toUInt32 >>> ((9 : Int32).toUInt32 &&& Int32.toUInt32 31)).toInt32 = nI (u9 z) := by
  have h := pk_ushrN (n := z.toBitVec.toNat) z.toBitVec.isLt (nI 9) 9 (sh_k 9 (by decide))
  rw [nI_self] at h
  exact h
theorem c_following {l : Launch} {X : XT} {d : Nat} {z : Int32} {m : Mem} : Meth l X d M_X3_following [vI z] m (fun r1 m' => r1 = some (vI (fol z)) ∧ m' = m) := by
  refine E_X3_following (ls := [vI z]) rfl rfl ?_
  repeat refine AW.s rfl ?_
  try dsimp only [List.set_cons_zero, List.set_cons_succ, Option.toList_some, Option.toList_none, List.cons_append, List.nil_append]
  exact AW.ri rfl rfl rfl ⟨rfl, rfl⟩
def drw (rc : Nat) (k : Nat) (z : Int32) : List Nat := match k with
  | 0 => []
  | k + 1 => (u9 (fol z) % rc) :: drw rc k (fol z)
def drawL (rc : Nat) (seed : Int32) : List Nat := if rc = 0 then [] else drw rc (u9 (fol seed) % 4 + 1) (fol seed)
theorem drw_len (rc k : Nat) (z : Int32) : (drw rc k z).length = k := by
  induction k generalizing z with
  | zero => rfl
  | succ k ih => show (drw rc k (fol z)).length + 1 = k + 1; rw [ih]
theorem drw_lt {rc k : Nat} (h : 0 < rc) {z : Int32} : ∀ r ∈ drw rc k z, r < rc := by
  induction k generalizing z with
  | zero => intro r hr; cases hr
  | succ k ih =>
    intro r hr
    rcases List.mem_cons.mp hr with q | q
    · rw [q]; exact Nat.mod_lt _ h
    · exact ih r q
theorem drawL_wf {σ : Sg} (s : Int32) : WFr σ (drawL (σ 0 2) s) := by
  unfold drawL
  split
  · exact ⟨by decide, fun r hr => by cases hr⟩
  · refine ⟨by rw [drw_len]; have := Nat.mod_lt (u9 (fol s)) (show 0 < 4 by decide); omega, drw_lt (by omega)⟩
end
section
theorem c_draw {l : Launch} {X : XT} {d : Nat} {h rc : Nat} {s : Int32} {m : Mem} (hd : 1 ≤ d) (hrc : rc ≤ 6) : Meth l X d M_X3_draw [vR 4 h, vI s, vI (nI rc)] m (fun r1 m' => r1 = none ∧ RepR m' h (drawL rc s) ∧ ∀ a, a ≠ h → a ≠ h + 1 → m' a = m a) := by
  obtain ⟨d, rfl⟩ : ∃ e, d = e + 1 := ⟨d - 1, by omega⟩
  refine E_X3_draw (ls := [vR 4 h, vI s, vI (nI rc), vU, vU, vU]) rfl rfl ?_
  repeat refine AW.s rfl ?_
  try dsimp only [List.set_cons_zero, List.set_cons_succ, Option.toList_some, Option.toList_none, List.cons_append, List.nil_append]
  refine AW.b rfl (fun hc => ?_) (fun hc => ?_)
  · have hpos : 0 < rc := by
      rcases Nat.eq_zero_or_pos rc with q | q
      · rw [q] at hc; exact absurd hc (by decide)
      · exact q
    have h4 := Nat.mod_lt (u9 (fol s)) (show 0 < 4 by decide)
    have hu := u9_lt (fol s)
    repeat refine AW.s rfl ?_
    try dsimp only [List.set_cons_zero, List.set_cons_succ, Option.toList_some, Option.toList_none, List.cons_append, List.nil_append]
    refine AW.S k_3_29 (c_following) rfl rfl rfl rfl (fun r1 m1 hq => ?_)
    obtain ⟨rfl, rfl⟩ := hq
    repeat refine AW.s rfl ?_
    try dsimp only [List.set_cons_zero, List.set_cons_succ, Option.toList_some, Option.toList_none, List.cons_append, List.nil_append]
    rw [ushr9]
    refine AW.c rfl (by decide) ?_
    try dsimp only [List.set_cons_zero, List.set_cons_succ, Option.toList_some, Option.toList_none, List.cons_append, List.nil_append]
    rw [show nI (u9 (fol s)) - nI (u9 (fol s)) / 4 * 4 = nI (u9 (fol s) % 4) from pk_rem (d := 4) (by omega) (by decide) (by decide)]
    iterate 2 refine AW.s rfl ?_
    try dsimp only [List.set_cons_zero, List.set_cons_succ, Option.toList_some, Option.toList_none, List.cons_append, List.nil_append]
    rw [nI_1]
    repeat refine AW.u 28 rfl rfl ?_
    try dsimp only [List.set_cons_zero, List.set_cons_succ, Option.toList_some, Option.toList_none, List.cons_append, List.nil_append]
    have hD : drawL rc s = drw rc (u9 (fol s) % 4 + 1) (fol s) := by unfold drawL; rw [if_neg (by omega)]
    rw [hD]
    generalize hk : u9 (fol s) % 4 + 1 = k at *
    generalize fol s = z0 at *
    refine AW.loop (pc := 28) (σ := Int32) k (fun i z => [vR 4 h, vI s, vI (nI rc), vI z, vI (nI k), vI (nI i)]) (fun i z m1 => (∀ a, a ≠ h → a ≠ h + 1 → m1 a = m a) ∧ RepR m1 h ((drw rc k z0).take i) ∧ drw rc (k - i) z = (drw rc k z0).drop i) (fun i z m1 hi hm1 ih => ?_) 0 z0 _ (Nat.zero_le _) ⟨fun a h1 _ => mUp_a h1, by rw [List.take_zero]; exact ⟨mUp_s _ _ _ _, fun k x hk => by simp at hk⟩, by rw [Nat.sub_zero, List.drop_zero]⟩
    obtain ⟨hf, hv, hz⟩ := hm1
    repeat refine AW.s rfl ?_
    try dsimp only [List.set_cons_zero, List.set_cons_succ, Option.toList_some, Option.toList_none, List.cons_append, List.nil_append]
    refine AW.b rfl (fun hc => ?_) (fun hc => ?_)
    · have hlt : i < k := (nI_ltI (by omega) (by omega)).mp hc
      repeat refine AW.s rfl ?_
      try dsimp only [List.set_cons_zero, List.set_cons_succ, Option.toList_some, Option.toList_none, List.cons_append, List.nil_append]
      refine AW.S k_3_29 (c_following) rfl rfl rfl rfl (fun r1 m1 hq => ?_)
      obtain ⟨rfl, rfl⟩ := hq
      have hu2 := u9_lt (fol z)
      obtain ⟨q, hq⟩ : ∃ q, k - i = q + 1 := ⟨k - i - 1, by omega⟩
      rw [hq] at hz
      have hz : (u9 (fol z) % rc) :: drw rc q (fol z) = (drw rc k z0).drop i := hz
      have hlen := drw_len rc k z0
      have hget : (drw rc k z0)[i]? = some (u9 (fol z) % rc) := by
        have : ((drw rc k z0).drop i)[0]? = some (u9 (fol z) % rc) := by rw [← hz]; rfl
        rwa [List.getElem?_drop, Nat.add_zero] at this
      repeat refine AW.s rfl ?_
      try dsimp only [List.set_cons_zero, List.set_cons_succ, Option.toList_some, Option.toList_none, List.cons_append, List.nil_append]
      rw [ushr9]
      refine AW.c rfl (nI_ne0 hpos (by omega)) ?_
      try dsimp only [List.set_cons_zero, List.set_cons_succ, Option.toList_some, Option.toList_none, List.cons_append, List.nil_append]
      rw [pk_rem (by omega) hpos (by omega)]
      refine AW.V k_3_25 ((c_push hv (by rw [List.length_take]; omega))) rfl rfl rfl rfl rfl rfl (fun r1 m1 hq => ?_)
      rename_i m2
      obtain ⟨rfl, p1, p2⟩ := hq
      repeat refine AW.u 28 rfl rfl ?_
      try dsimp only [List.set_cons_zero, List.set_cons_succ, Option.toList_some, Option.toList_none, List.cons_append, List.nil_append]
      rw [nI_1]
      refine ih _ _ hlt ⟨fun a h1 h2 => by rw [p2 a h1 h2]; exact hf a h1 h2, ?_, ?_⟩
      · rw [List.take_add_one, hget]; exact p1
      · rw [show k - (i + 1) = q by omega, ← List.drop_drop, ← hz]; rfl
    · have : i = k := by
        have : ¬ i < k := fun q => hc ((nI_ltI (by omega) (by omega)).mpr q)
        omega
      subst this
      rw [List.take_of_length_le (by rw [drw_len]; exact Nat.le_refl _)] at hv
      exact AW.rv rfl rfl ⟨rfl, hv, hf⟩
  · have h0 : rc = 0 := by
      rcases Nat.eq_zero_or_pos rc with q | q
      · exact q
      · exact absurd (nI_lt (a := 0) q (by omega)) hc
    subst h0
    have hD : drawL 0 s = [] := by unfold drawL; rw [if_pos rfl]
    rw [hD]
    exact AW.rv rfl rfl ⟨rfl, ⟨mUp_s _ _ _ _, fun k x hk => by simp at hk⟩, fun a h1 _ => mUp_a h1⟩
end
section
/-- what a cell of a text is worked out to -/
def wkN (o : Nat) (l r : Int32) (v f : Nat → Int32) : Int32 := match o with
  | 0 => l
  | 1 => f l.toNatClampNeg
  | 2 => if v l.toNatClampNeg = 0 then (if v r.toNatClampNeg = 0 then 0 else 1) else 1
  | 3 => if v l.toNatClampNeg = 0 then 0 else (if v r.toNatClampNeg = 0 then 0 else 1)
  | 4 => if v l.toNatClampNeg = 0 then 1 else 0
  | 5 => if v l.toNatClampNeg < v r.toNatClampNeg then 1 else 0
  | 6 => if v l.toNatClampNeg = v r.toNatClampNeg then 1 else 0
  | 7 => v l.toNatClampNeg + v r.toNatClampNeg
  | 8 => v l.toNatClampNeg - v r.toNatClampNeg
  | 9 => v l.toNatClampNeg * v r.toNatClampNeg
  | _ => -v l.toNatClampNeg
theorem wk_2 {l r : Int32} {v f : Nat → Int32} : wkN 2 l r v f = (if v l.toNatClampNeg = 0 then (if v r.toNatClampNeg = 0 then 0 else 1) else 1) := rfl
theorem wk_3 {l r : Int32} {v f : Nat → Int32} : wkN 3 l r v f = (if v l.toNatClampNeg = 0 then 0 else (if v r.toNatClampNeg = 0 then 0 else 1)) := rfl
theorem wk_4 {l r : Int32} {v f : Nat → Int32} : wkN 4 l r v f = (if v l.toNatClampNeg = 0 then 1 else 0) := rfl
theorem wk_5 {l r : Int32} {v f : Nat → Int32} : wkN 5 l r v f = (if v l.toNatClampNeg < v r.toNatClampNeg then 1 else 0) := rfl
theorem wk_6 {l r : Int32} {v f : Nat → Int32} : wkN 6 l r v f = (if v l.toNatClampNeg = v r.toNatClampNeg then 1 else 0) := rfl
theorem wk_7 {l r : Int32} {v f : Nat → Int32} : wkN 7 l r v f = (v l.toNatClampNeg + v r.toNatClampNeg) := rfl
theorem wk_8 {l r : Int32} {v f : Nat → Int32} : wkN 8 l r v f = (v l.toNatClampNeg - v r.toNatClampNeg) := rfl
theorem wk_9 {l r : Int32} {v f : Nat → Int32} : wkN 9 l r v f = (v l.toNatClampNeg * v r.toNatClampNeg) := rfl
theorem wk_10 {l r : Int32} {v f : Nat → Int32} : wkN 10 l r v f = (-v l.toNatClampNeg) := rfl
def celOK (o : Nat) (l r : Int32) (s i : Nat) : Prop := o ≤ 10 ∧ (o = 1 → ∃ j, j < 6 ∧ l = nI j) ∧ (2 ≤ o → ∃ j, s ≤ j ∧ j < i ∧ l = nI j) ∧ (2 ≤ o → o ≠ 4 → o ≠ 10 → ∃ j, s ≤ j ∧ j < i ∧ r = nI j)
theorem o11 {o : Nat} (h : o ≤ 10) : o = 0 ∨ o = 1 ∨ o = 2 ∨ o = 3 ∨ o = 4 ∨ o = 5 ∨ o = 6 ∨ o = 7 ∨ o = 8 ∨ o = 9 ∨ o = 10 := by omega
theorem wkN_congr {o s i : Nat} {l r : Int32} {v v' f f' : Nat → Int32} (h : celOK o l r s i) (hi : i ≤ 160) (hv : ∀ j, s ≤ j → j < i → v j = v' j) (hf : ∀ j, j < 6 → f j = f' j) : wkN o l r v f = wkN o l r v' f' := by
  obtain ⟨h0, h1, h2, h3⟩ := h
  have hl : 2 ≤ o → v l.toNatClampNeg = v' l.toNatClampNeg := by
    intro q
    obtain ⟨j, a, b, rfl⟩ := h2 q
    rw [nI_clamp (by omega)]
    exact hv j a b
  have hr : 2 ≤ o → o ≠ 4 → o ≠ 10 → v r.toNatClampNeg = v' r.toNatClampNeg := by
    intro q q4 q10
    obtain ⟨j, a, b, rfl⟩ := h3 q q4 q10
    rw [nI_clamp (by omega)]
    exact hv j a b
  rcases o11 h0 with e | e | e | e | e | e | e | e | e | e | e <;> subst e
  · rfl
  · obtain ⟨j, a, rfl⟩ := h1 rfl
    show f _ = f' _
    rw [nI_clamp (by omega)]
    exact hf j a
  · rw [wk_2, wk_2, hl (by decide), hr (by decide) (by decide) (by decide)]
  · rw [wk_3, wk_3, hl (by decide), hr (by decide) (by decide) (by decide)]
  · rw [wk_4, wk_4, hl (by decide)]
  · rw [wk_5, wk_5, hl (by decide), hr (by decide) (by decide) (by decide)]
  · rw [wk_6, wk_6, hl (by decide), hr (by decide) (by decide) (by decide)]
  · rw [wk_7, wk_7, hl (by decide), hr (by decide) (by decide) (by decide)]
  · rw [wk_8, wk_8, hl (by decide), hr (by decide) (by decide) (by decide)]
  · rw [wk_9, wk_9, hl (by decide), hr (by decide) (by decide) (by decide)]
  · rw [wk_10, wk_10, hl (by decide)]
def cvF (op lf rt f : Nat → Int32) (n : Nat) (i : Nat) : Int32 := match n with
  | 0 => 0
  | n + 1 => wkN (op i).toNatClampNeg (lf i) (rt i) (cvF op lf rt f n) f
def rngOK (op lf rt : Nat → Int32) (s e : Nat) : Prop := ∀ i, s ≤ i → i < e → ∃ o, op i = nI o ∧ celOK o (lf i) (rt i) s i
theorem cvF_st {op lf rt f f' : Nat → Int32} {s e : Nat} (h : rngOK op lf rt s e) (he : e ≤ 160) (hf : ∀ j, j < 6 → f j = f' j) : ∀ i, s ≤ i → i < e → ∀ n n', i < n → i < n' → cvF op lf rt f n i = cvF op lf rt f' n' i := by
  intro i
  induction i using Nat.strongRecOn with
  | ind i ih =>
    intro hs hi n n' hn hn'
    obtain ⟨a, rfl⟩ : ∃ a, n = a + 1 := ⟨n - 1, by omega⟩
    obtain ⟨b, rfl⟩ : ∃ b, n' = b + 1 := ⟨n' - 1, by omega⟩
    obtain ⟨o, ho, hc⟩ := h i hs hi
    show wkN (op i).toNatClampNeg _ _ _ _ = wkN (op i).toNatClampNeg _ _ _ _
    rw [ho, nI_clamp (by have := hc.1; omega)]
    exact wkN_congr hc (by omega) (fun j h1 h2 => ih j h2 h1 (by omega) a b (by omega) (by omega)) hf
/-- a text that was read: where its parts end, each part's cells stand on cells of that part -/
def sta (en : Nat → Nat) (p : Nat) : Nat := if p = 0 then 0 else en (p - 1)
def TOK (m : Mem) (T : Nat) (en : Nat → Nat) : Prop := (∀ p, p < 3 → m (T + 5) p = nI (en p) ∧ sta en p < en p ∧ en p ≤ 160 ∧ rngOK (m (T + 1)) (m (T + 2)) (m (T + 3)) (sta en p) (en p))
def tval (m : Mem) (T : Nat) (en : Nat → Nat) (p : Nat) (f : Nat → Int32) : Int32 := cvF (m (T + 1)) (m (T + 2)) (m (T + 3)) f (en p) (en p - 1)
def clI (v : Int32) : Int32 := if 0 < (if v < 99 then v else 99) then (if v < 99 then v else 99) else 0
set_option maxRecDepth 4000 in
theorem c_worked {l : Launch} {X : XT} {d : Nat} {T F o s i : Nat} {lf rt : Int32} {m : Mem} (hc0 : celOK o lf rt s i) (hi : i ≤ 160) : Meth l X d M_X9_worked [vR 10 T, vI (nI o), vI lf, vI rt, vR 1006 F] m (fun r1 m' => r1 = some (vI (wkN o lf rt (m (T + 4)) (m F))) ∧ m' = m) := by
  obtain ⟨h0, h1, h2, h3⟩ := hc0
  refine E_X9_worked (ls := [vR 10 T, vI (nI o), vI lf, vI rt, vR 1006 F]) rfl rfl ?_
  repeat refine AW.s rfl ?_
  try dsimp only [List.set_cons_zero, List.set_cons_succ, Option.toList_some, Option.toList_none, List.cons_append, List.nil_append]
  have hL : 2 ≤ o → vp_in lf 160 := by
    intro q
    obtain ⟨j, _, b, rfl⟩ := h2 q
    exact vp_in_nI (by omega) (by decide)
  have hR : 2 ≤ o → o ≠ 4 → o ≠ 10 → vp_in rt 160 := by
    intro q q4 q10
    obtain ⟨j, _, b, rfl⟩ := h3 q q4 q10
    exact vp_in_nI (by omega) (by decide)
  rcases o11 h0 with e | e | e | e | e | e | e | e | e | e | e <;> subst e
  · refine AW.tin (tgt := 56) rfl (by decide) (by decide) rfl (by decide) ?_
    repeat refine AW.s rfl ?_
    try dsimp only [List.set_cons_zero, List.set_cons_succ, Option.toList_some, Option.toList_none, List.cons_append, List.nil_append]
    exact AW.ri rfl rfl rfl ⟨rfl, rfl⟩
  · refine AW.tin (tgt := 58) rfl (by decide) (by decide) rfl (by decide) ?_
    repeat refine AW.s rfl ?_
    try dsimp only [List.set_cons_zero, List.set_cons_succ, Option.toList_some, Option.toList_none, List.cons_append, List.nil_append]
    obtain ⟨j, hj, rfl⟩ := h1 rfl
    refine AW.c rfl (vp_in_nI (by omega) (by decide)) ?_
    try dsimp only [List.set_cons_zero, List.set_cons_succ, Option.toList_some, Option.toList_none, List.cons_append, List.nil_append]
    exact AW.ri rfl rfl rfl ⟨rfl, rfl⟩
  · refine AW.tin (tgt := 63) rfl (by decide) (by decide) rfl (by decide) ?_
    repeat refine AW.s rfl ?_
    try dsimp only [List.set_cons_zero, List.set_cons_succ, Option.toList_some, Option.toList_none, List.cons_append, List.nil_append]
    refine AW.c rfl (hL (by decide)) ?_
    try dsimp only [List.set_cons_zero, List.set_cons_succ, Option.toList_some, Option.toList_none, List.cons_append, List.nil_append]
    refine AW.b rfl (fun hc => ?_) (fun hc => ?_)
    · have e1 := hc
      repeat refine AW.s rfl ?_
      try dsimp only [List.set_cons_zero, List.set_cons_succ, Option.toList_some, Option.toList_none, List.cons_append, List.nil_append]
      refine AW.c rfl (hR (by decide) (by decide) (by decide)) ?_
      try dsimp only [List.set_cons_zero, List.set_cons_succ, Option.toList_some, Option.toList_none, List.cons_append, List.nil_append]
      refine AW.b rfl (fun hc => ?_) (fun hc => ?_)
      · have e2 := hc
        repeat refine AW.s rfl ?_
        try dsimp only [List.set_cons_zero, List.set_cons_succ, Option.toList_some, Option.toList_none, List.cons_append, List.nil_append]
        exact AW.ri rfl rfl rfl ⟨by rw [show wkN 2 lf rt (m (T + 4)) (m F) = if m (T + 4) lf.toNatClampNeg = 0 then (if m (T + 4) rt.toNatClampNeg = 0 then 0 else 1) else 1 from rfl, if_pos e1, if_pos e2], rfl⟩
      · have e2 := hc
        repeat refine AW.s rfl ?_
        try dsimp only [List.set_cons_zero, List.set_cons_succ, Option.toList_some, Option.toList_none, List.cons_append, List.nil_append]
        exact AW.ri rfl rfl rfl ⟨by rw [show wkN 2 lf rt (m (T + 4)) (m F) = if m (T + 4) lf.toNatClampNeg = 0 then (if m (T + 4) rt.toNatClampNeg = 0 then 0 else 1) else 1 from rfl, if_pos e1, if_neg e2], rfl⟩
    · have e1 := hc
      repeat refine AW.s rfl ?_
      try dsimp only [List.set_cons_zero, List.set_cons_succ, Option.toList_some, Option.toList_none, List.cons_append, List.nil_append]
      exact AW.ri rfl rfl rfl ⟨by rw [show wkN 2 lf rt (m (T + 4)) (m F) = if m (T + 4) lf.toNatClampNeg = 0 then (if m (T + 4) rt.toNatClampNeg = 0 then 0 else 1) else 1 from rfl, if_neg e1], rfl⟩
  · refine AW.tin (tgt := 87) rfl (by decide) (by decide) rfl (by decide) ?_
    repeat refine AW.s rfl ?_
    try dsimp only [List.set_cons_zero, List.set_cons_succ, Option.toList_some, Option.toList_none, List.cons_append, List.nil_append]
    refine AW.c rfl (hL (by decide)) ?_
    try dsimp only [List.set_cons_zero, List.set_cons_succ, Option.toList_some, Option.toList_none, List.cons_append, List.nil_append]
    refine AW.b rfl (fun hc => ?_) (fun hc => ?_)
    · have e1 := hc
      repeat refine AW.s rfl ?_
      try dsimp only [List.set_cons_zero, List.set_cons_succ, Option.toList_some, Option.toList_none, List.cons_append, List.nil_append]
      exact AW.ri rfl rfl rfl ⟨by rw [show wkN 3 lf rt (m (T + 4)) (m F) = if m (T + 4) lf.toNatClampNeg = 0 then 0 else (if m (T + 4) rt.toNatClampNeg = 0 then 0 else 1) from rfl, if_pos e1], rfl⟩
    · have e1 := hc
      repeat refine AW.s rfl ?_
      try dsimp only [List.set_cons_zero, List.set_cons_succ, Option.toList_some, Option.toList_none, List.cons_append, List.nil_append]
      refine AW.c rfl (hR (by decide) (by decide) (by decide)) ?_
      try dsimp only [List.set_cons_zero, List.set_cons_succ, Option.toList_some, Option.toList_none, List.cons_append, List.nil_append]
      refine AW.b rfl (fun hc => ?_) (fun hc => ?_)
      · have e2 := hc
        repeat refine AW.s rfl ?_
        try dsimp only [List.set_cons_zero, List.set_cons_succ, Option.toList_some, Option.toList_none, List.cons_append, List.nil_append]
        exact AW.ri rfl rfl rfl ⟨by rw [show wkN 3 lf rt (m (T + 4)) (m F) = if m (T + 4) lf.toNatClampNeg = 0 then 0 else (if m (T + 4) rt.toNatClampNeg = 0 then 0 else 1) from rfl, if_neg e1, if_pos e2], rfl⟩
      · have e2 := hc
        repeat refine AW.s rfl ?_
        try dsimp only [List.set_cons_zero, List.set_cons_succ, Option.toList_some, Option.toList_none, List.cons_append, List.nil_append]
        exact AW.ri rfl rfl rfl ⟨by rw [show wkN 3 lf rt (m (T + 4)) (m F) = if m (T + 4) lf.toNatClampNeg = 0 then 0 else (if m (T + 4) rt.toNatClampNeg = 0 then 0 else 1) from rfl, if_neg e1, if_neg e2], rfl⟩
  · refine AW.tin (tgt := 111) rfl (by decide) (by decide) rfl (by decide) ?_
    repeat refine AW.s rfl ?_
    try dsimp only [List.set_cons_zero, List.set_cons_succ, Option.toList_some, Option.toList_none, List.cons_append, List.nil_append]
    refine AW.c rfl (hL (by decide)) ?_
    try dsimp only [List.set_cons_zero, List.set_cons_succ, Option.toList_some, Option.toList_none, List.cons_append, List.nil_append]
    refine AW.b rfl (fun hc => ?_) (fun hc => ?_)
    · have e1 := hc
      repeat refine AW.s rfl ?_
      try dsimp only [List.set_cons_zero, List.set_cons_succ, Option.toList_some, Option.toList_none, List.cons_append, List.nil_append]
      exact AW.ri rfl rfl rfl ⟨by rw [show wkN 4 lf rt (m (T + 4)) (m F) = if m (T + 4) lf.toNatClampNeg = 0 then 1 else 0 from rfl, if_pos e1], rfl⟩
    · have e1 := hc
      repeat refine AW.s rfl ?_
      try dsimp only [List.set_cons_zero, List.set_cons_succ, Option.toList_some, Option.toList_none, List.cons_append, List.nil_append]
      exact AW.ri rfl rfl rfl ⟨by rw [show wkN 4 lf rt (m (T + 4)) (m F) = if m (T + 4) lf.toNatClampNeg = 0 then 1 else 0 from rfl, if_neg e1], rfl⟩
  · refine AW.tin (tgt := 126) rfl (by decide) (by decide) rfl (by decide) ?_
    repeat refine AW.s rfl ?_
    try dsimp only [List.set_cons_zero, List.set_cons_succ, Option.toList_some, Option.toList_none, List.cons_append, List.nil_append]
    refine AW.c rfl (hL (by decide)) ?_
    try dsimp only [List.set_cons_zero, List.set_cons_succ, Option.toList_some, Option.toList_none, List.cons_append, List.nil_append]
    repeat refine AW.s rfl ?_
    try dsimp only [List.set_cons_zero, List.set_cons_succ, Option.toList_some, Option.toList_none, List.cons_append, List.nil_append]
    refine AW.c rfl (hR (by decide) (by decide) (by decide)) ?_
    try dsimp only [List.set_cons_zero, List.set_cons_succ, Option.toList_some, Option.toList_none, List.cons_append, List.nil_append]
    refine AW.b rfl (fun hc => ?_) (fun hc => ?_)
    · have e1 := hc
      repeat refine AW.s rfl ?_
      try dsimp only [List.set_cons_zero, List.set_cons_succ, Option.toList_some, Option.toList_none, List.cons_append, List.nil_append]
      exact AW.ri rfl rfl rfl ⟨by rw [show wkN 5 lf rt (m (T + 4)) (m F) = if m (T + 4) lf.toNatClampNeg < m (T + 4) rt.toNatClampNeg then 1 else 0 from rfl, if_pos e1], rfl⟩
    · have e1 := hc
      repeat refine AW.s rfl ?_
      try dsimp only [List.set_cons_zero, List.set_cons_succ, Option.toList_some, Option.toList_none, List.cons_append, List.nil_append]
      exact AW.ri rfl rfl rfl ⟨by rw [show wkN 5 lf rt (m (T + 4)) (m F) = if m (T + 4) lf.toNatClampNeg < m (T + 4) rt.toNatClampNeg then 1 else 0 from rfl, if_neg e1], rfl⟩
  · refine AW.tin (tgt := 147) rfl (by decide) (by decide) rfl (by decide) ?_
    repeat refine AW.s rfl ?_
    try dsimp only [List.set_cons_zero, List.set_cons_succ, Option.toList_some, Option.toList_none, List.cons_append, List.nil_append]
    refine AW.c rfl (hL (by decide)) ?_
    try dsimp only [List.set_cons_zero, List.set_cons_succ, Option.toList_some, Option.toList_none, List.cons_append, List.nil_append]
    repeat refine AW.s rfl ?_
    try dsimp only [List.set_cons_zero, List.set_cons_succ, Option.toList_some, Option.toList_none, List.cons_append, List.nil_append]
    refine AW.c rfl (hR (by decide) (by decide) (by decide)) ?_
    try dsimp only [List.set_cons_zero, List.set_cons_succ, Option.toList_some, Option.toList_none, List.cons_append, List.nil_append]
    refine AW.b rfl (fun hc => ?_) (fun hc => ?_)
    · have e1 := hc
      repeat refine AW.s rfl ?_
      try dsimp only [List.set_cons_zero, List.set_cons_succ, Option.toList_some, Option.toList_none, List.cons_append, List.nil_append]
      exact AW.ri rfl rfl rfl ⟨by rw [show wkN 6 lf rt (m (T + 4)) (m F) = if m (T + 4) lf.toNatClampNeg = m (T + 4) rt.toNatClampNeg then 1 else 0 from rfl, if_pos e1], rfl⟩
    · have e1 := hc
      repeat refine AW.s rfl ?_
      try dsimp only [List.set_cons_zero, List.set_cons_succ, Option.toList_some, Option.toList_none, List.cons_append, List.nil_append]
      exact AW.ri rfl rfl rfl ⟨by rw [show wkN 6 lf rt (m (T + 4)) (m F) = if m (T + 4) lf.toNatClampNeg = m (T + 4) rt.toNatClampNeg then 1 else 0 from rfl, if_neg e1], rfl⟩
  · refine AW.tin (tgt := 168) rfl (by decide) (by decide) rfl (by decide) ?_
    repeat refine AW.s rfl ?_
    try dsimp only [List.set_cons_zero, List.set_cons_succ, Option.toList_some, Option.toList_none, List.cons_append, List.nil_append]
    refine AW.c rfl (hL (by decide)) ?_
    try dsimp only [List.set_cons_zero, List.set_cons_succ, Option.toList_some, Option.toList_none, List.cons_append, List.nil_append]
    repeat refine AW.s rfl ?_
    try dsimp only [List.set_cons_zero, List.set_cons_succ, Option.toList_some, Option.toList_none, List.cons_append, List.nil_append]
    refine AW.c rfl (hR (by decide) (by decide) (by decide)) ?_
    try dsimp only [List.set_cons_zero, List.set_cons_succ, Option.toList_some, Option.toList_none, List.cons_append, List.nil_append]
    repeat refine AW.s rfl ?_
    try dsimp only [List.set_cons_zero, List.set_cons_succ, Option.toList_some, Option.toList_none, List.cons_append, List.nil_append]
    exact AW.ri rfl rfl rfl ⟨rfl, rfl⟩
  · refine AW.tin (tgt := 182) rfl (by decide) (by decide) rfl (by decide) ?_
    repeat refine AW.s rfl ?_
    try dsimp only [List.set_cons_zero, List.set_cons_succ, Option.toList_some, Option.toList_none, List.cons_append, List.nil_append]
    refine AW.c rfl (hL (by decide)) ?_
    try dsimp only [List.set_cons_zero, List.set_cons_succ, Option.toList_some, Option.toList_none, List.cons_append, List.nil_append]
    repeat refine AW.s rfl ?_
    try dsimp only [List.set_cons_zero, List.set_cons_succ, Option.toList_some, Option.toList_none, List.cons_append, List.nil_append]
    refine AW.c rfl (hR (by decide) (by decide) (by decide)) ?_
    try dsimp only [List.set_cons_zero, List.set_cons_succ, Option.toList_some, Option.toList_none, List.cons_append, List.nil_append]
    repeat refine AW.s rfl ?_
    try dsimp only [List.set_cons_zero, List.set_cons_succ, Option.toList_some, Option.toList_none, List.cons_append, List.nil_append]
    exact AW.ri rfl rfl rfl ⟨rfl, rfl⟩
  · refine AW.tin (tgt := 196) rfl (by decide) (by decide) rfl (by decide) ?_
    repeat refine AW.s rfl ?_
    try dsimp only [List.set_cons_zero, List.set_cons_succ, Option.toList_some, Option.toList_none, List.cons_append, List.nil_append]
    refine AW.c rfl (hL (by decide)) ?_
    try dsimp only [List.set_cons_zero, List.set_cons_succ, Option.toList_some, Option.toList_none, List.cons_append, List.nil_append]
    repeat refine AW.s rfl ?_
    try dsimp only [List.set_cons_zero, List.set_cons_succ, Option.toList_some, Option.toList_none, List.cons_append, List.nil_append]
    refine AW.c rfl (hR (by decide) (by decide) (by decide)) ?_
    try dsimp only [List.set_cons_zero, List.set_cons_succ, Option.toList_some, Option.toList_none, List.cons_append, List.nil_append]
    repeat refine AW.s rfl ?_
    try dsimp only [List.set_cons_zero, List.set_cons_succ, Option.toList_some, Option.toList_none, List.cons_append, List.nil_append]
    exact AW.ri rfl rfl rfl ⟨rfl, rfl⟩
  · refine AW.tout (tgt := 210) rfl (by decide) (by decide) ?_
    repeat refine AW.s rfl ?_
    try dsimp only [List.set_cons_zero, List.set_cons_succ, Option.toList_some, Option.toList_none, List.cons_append, List.nil_append]
    refine AW.c rfl (hL (by decide)) ?_
    try dsimp only [List.set_cons_zero, List.set_cons_succ, Option.toList_some, Option.toList_none, List.cons_append, List.nil_append]
    repeat refine AW.s rfl ?_
    try dsimp only [List.set_cons_zero, List.set_cons_succ, Option.toList_some, Option.toList_none, List.cons_append, List.nil_append]
    exact AW.ri rfl rfl rfl ⟨rfl, rfl⟩
end
section
theorem c_tells {l : Launch} {X : XT} {d : Nat} {T F p : Nat} {en : Nat → Nat} {m : Mem} (hd : 1 ≤ d) (ht : TOK m T en) (hp : p < 3) (hF : F ≠ T + 4) : Meth l X d M_X9_tells [vR 10 T, vI (nI p), vR 1006 F] m (fun r1 m' => r1 = some (vI (clI (tval m T en p (m F)))) ∧ ∀ a, a ≠ T + 4 → m' a = m a) := by
  obtain ⟨d, rfl⟩ : ∃ e, d = e + 1 := ⟨d - 1, by omega⟩
  obtain ⟨h1, h2, h3, h4⟩ := ht p hp
  have key : ∀ m0 : Mem, AW (GM l X (d + 1) M_X9_tells (fun r1 m' => r1 = some (vI (clI (tval m T en p (m F)))) ∧ ∀ a, a ≠ T + 4 → m' a = m a)) 20 [vR 10 T, vI (nI p), vR 1006 F, vI 0, vI (nI (sta en p))] [] m := by
    intro _
    refine AW.loop (pc := 20) (σ := Int32) (en p) (fun i v => [vR 10 T, vI (nI p), vR 1006 F, vI v, vI (nI i)]) (fun i v m1 => sta en p ≤ i ∧ (∀ a, a ≠ T + 4 → m1 a = m a) ∧ (∀ j, sta en p ≤ j → j < i → m1 (T + 4) j = cvF (m (T + 1)) (m (T + 2)) (m (T + 3)) (m F) (j + 1) j) ∧ (sta en p < i → v = cvF (m (T + 1)) (m (T + 2)) (m (T + 3)) (m F) i (i - 1))) (fun i v m1 hi hm1 ih => ?_) (sta en p) 0 m (by omega) ⟨Nat.le_refl _, fun _ _ => rfl, fun j a b => absurd a (by omega), fun q => absurd q (by omega)⟩
    obtain ⟨hsi, hf, hv, hlast⟩ := hm1
    repeat refine AW.s rfl ?_
    try dsimp only [List.set_cons_zero, List.set_cons_succ, Option.toList_some, Option.toList_none, List.cons_append, List.nil_append]
    refine AW.c rfl (vp_in_nI (by omega) (by decide)) ?_
    try dsimp only [List.set_cons_zero, List.set_cons_succ, Option.toList_some, Option.toList_none, List.cons_append, List.nil_append]
    rw [nI_clamp (by omega), show m1 (T + 5) p = nI (en p) by rw [hf _ (by omega)]; exact h1]
    refine AW.b rfl (fun hc => ?_) (fun hc => ?_)
    · have hlt : i < en p := (nI_ltI (by omega) (by omega)).mp hc
      obtain ⟨o, ho, hcel⟩ := h4 i hsi hlt
      repeat refine AW.s rfl ?_
      try dsimp only [List.set_cons_zero, List.set_cons_succ, Option.toList_some, Option.toList_none, List.cons_append, List.nil_append]
      refine AW.c rfl (vp_in_nI (by omega) (by decide)) ?_
      try dsimp only [List.set_cons_zero, List.set_cons_succ, Option.toList_some, Option.toList_none, List.cons_append, List.nil_append]
      rw [nI_clamp (by omega), hf (T + 1) (by omega), ho]
      repeat refine AW.s rfl ?_
      try dsimp only [List.set_cons_zero, List.set_cons_succ, Option.toList_some, Option.toList_none, List.cons_append, List.nil_append]
      refine AW.c rfl (vp_in_nI (by omega) (by decide)) ?_
      try dsimp only [List.set_cons_zero, List.set_cons_succ, Option.toList_some, Option.toList_none, List.cons_append, List.nil_append]
      rw [nI_clamp (by omega), hf (T + 2) (by omega)]
      repeat refine AW.s rfl ?_
      try dsimp only [List.set_cons_zero, List.set_cons_succ, Option.toList_some, Option.toList_none, List.cons_append, List.nil_append]
      refine AW.c rfl (vp_in_nI (by omega) (by decide)) ?_
      try dsimp only [List.set_cons_zero, List.set_cons_succ, Option.toList_some, Option.toList_none, List.cons_append, List.nil_append]
      rw [nI_clamp (by omega), hf (T + 3) (by omega)]
      repeat refine AW.s rfl ?_
      try dsimp only [List.set_cons_zero, List.set_cons_succ, Option.toList_some, Option.toList_none, List.cons_append, List.nil_append]
      refine AW.V k_9_31 ((c_worked hcel (by omega))) rfl rfl rfl rfl rfl rfl (fun r1 m1 hq => ?_)
      obtain ⟨rfl, rfl⟩ := hq
      have hval : wkN o (m (T + 2) i) (m (T + 3) i) (m1 (T + 4)) (m1 F) = cvF (m (T + 1)) (m (T + 2)) (m (T + 3)) (m F) (i + 1) i := by
        show _ = wkN (m (T + 1) i).toNatClampNeg _ _ _ _
        rw [ho, nI_clamp (by have := hcel.1; omega), hf F hF]
        exact wkN_congr hcel (by omega) (fun j a b => by rw [hv j a b]; exact cvF_st h4 h3 (fun _ _ => rfl) j a (by omega) _ _ (by omega) (by omega)) (fun _ _ => rfl)
      rw [hval]
      repeat refine AW.s rfl ?_
      try dsimp only [List.set_cons_zero, List.set_cons_succ, Option.toList_some, Option.toList_none, List.cons_append, List.nil_append]
      refine AW.c rfl (⟨vp_in_nI (by omega) (by decide), fun q => absurd q (by decide)⟩) ?_
      try dsimp only [List.set_cons_zero, List.set_cons_succ, Option.toList_some, Option.toList_none, List.cons_append, List.nil_append]
      rw [nI_clamp (by omega)]
      repeat refine AW.u 20 rfl rfl ?_
      try dsimp only [List.set_cons_zero, List.set_cons_succ, Option.toList_some, Option.toList_none, List.cons_append, List.nil_append]
      rw [nI_1]
      refine ih _ _ hlt ⟨by omega, fun a ha => by rw [mUp_a ha]; exact hf a ha, fun j a b => ?_, fun _ => rfl⟩
      by_cases e : j = i
      · subst e; exact mUp_s _ _ _ _
      · rw [mUp_n (Or.inr e)]; exact hv j a (by omega)
    · have : i = en p := by
        have : ¬ i < en p := fun q => hc ((nI_ltI (by omega) (by omega)).mpr q)
        omega
      subst this
      have hl := hlast h2
      repeat refine AW.s rfl ?_
      try dsimp only [List.set_cons_zero, List.set_cons_succ, Option.toList_some, Option.toList_none, List.cons_append, List.nil_append]
      refine AW.mmin (G := GM l X (d + 1) M_X9_tells _) rfl k_9_35 rR1 (by decide) ?_
      try dsimp only [List.set_cons_zero, List.set_cons_succ, Option.toList_some, Option.toList_none, List.cons_append, List.nil_append]
      refine AW.mmax (G := GM l X (d + 1) M_X9_tells _) rfl k_9_41 rR1 (by decide) ?_
      try dsimp only [List.set_cons_zero, List.set_cons_succ, Option.toList_some, Option.toList_none, List.cons_append, List.nil_append]
      subst hl
      exact AW.ri rfl rfl rfl ⟨rfl, hf⟩
  refine E_X9_tells (ls := [vR 10 T, vI (nI p), vR 1006 F, vU, vU]) rfl rfl ?_
  repeat refine AW.s rfl ?_
  try dsimp only [List.set_cons_zero, List.set_cons_succ, Option.toList_some, Option.toList_none, List.cons_append, List.nil_append]
  refine AW.b rfl (fun hc => ?_) (fun hc => ?_)
  · have e : p = 0 := (nI_eq (b := 0) (by omega) (by decide)).mp hc
    subst e
    repeat refine AW.u 20 rfl rfl ?_
    try dsimp only [List.set_cons_zero, List.set_cons_succ, Option.toList_some, Option.toList_none, List.cons_append, List.nil_append]
    exact key m
  · have e : ¬ p = 0 := fun q => hc (by rw [q]; rfl)
    obtain ⟨g1, g2, g3, g4⟩ := ht (p - 1) (by omega)
    repeat refine AW.s rfl ?_
    try dsimp only [List.set_cons_zero, List.set_cons_succ, Option.toList_some, Option.toList_none, List.cons_append, List.nil_append]
    rw [show nI p - 1 = nI (p - 1) from pk_sub (b := 1) (by omega)]
    refine AW.c rfl (vp_in_nI (by omega) (by decide)) ?_
    try dsimp only [List.set_cons_zero, List.set_cons_succ, Option.toList_some, Option.toList_none, List.cons_append, List.nil_append]
    rw [nI_clamp (by omega), g1]
    repeat refine AW.u 20 rfl rfl ?_
    try dsimp only [List.set_cons_zero, List.set_cons_succ, Option.toList_some, Option.toList_none, List.cons_append, List.nil_append]
    have hs : sta en p = en (p - 1) := by unfold sta; rw [if_neg e]
    rw [← hs]
    exact key m
end
section
/-- what the names of texts tell of a word as it is said -/
def fctV (σ : Sg) (rw : List Nat) (w : Nat) (xs : List Nat) (k : Nat) : Int32 := match k with
  | 0 => nI xs.length
  | 1 => nI (vcnt (σ 0 0) xs)
  | 2 => nI rw.length
  | 3 => match rw.getLast? with
    | none => 0
    | some r => nI (σ 5 r)
  | 4 => nI w
  | _ => nI (σ 2 w)
theorem last_mem {rw : List Nat} {r : Nat} (h : rw.getLast? = some r) : r ∈ rw := by
  rw [List.getLast?_eq_getElem?] at h
  exact List.mem_of_getElem? h
theorem k6 {k : Nat} (h : k < 6) : k = 0 ∨ k = 1 ∨ k = 2 ∨ k = 3 ∨ k = 4 ∨ k = 5 := by omega
theorem c_regard {l : Launch} {X : XT} {d : Nat} {J ρ h w : Nat} {m : Mem} {σ : Sg} {rw xs : List Nat} (hd : 1 ≤ d) (hs : RepS m 1 σ) (hσ : WF σ) (hrw : WFr σ rw) (hρ : RepR m ρ rw) (hw : w < σ 0 1) (hy : RY m h (some xs)) (ho : WFo (some xs)) (hJ : 18 ≤ J) (hJh : J + 1 < h ∨ h + 1 < J) (hJρ : J + 1 < ρ ∨ ρ + 1 < J) : Meth l X d M_X0_regard [vR 1 J, vR 8 1, vR 4 ρ, vI (nI w), vR 5 h] m (fun r1 m' => r1 = none ∧ (∀ k, k < 6 → m' (J + 1) k = fctV σ rw w xs k) ∧ ∀ a, a ≠ J + 1 → m' a = m a) := by
  obtain ⟨d, rfl⟩ : ∃ e, d = e + 1 := ⟨d - 1, by omega⟩
  obtain ⟨hg, h1l, h40⟩ := ho xs rfl
  have hV : m 1 0 = nI (σ 0 0) := hs.1
  have hwt : m 12 w = nI (σ 2 w) := (hs.2.2.2.2.1 w hw).2.1
  have hw8 : w < 8 := Nat.lt_of_lt_of_le hw hσ.2.1
  refine E_X0_regard (ls := [vR 1 J, vR 8 1, vR 4 ρ, vI (nI w), vR 5 h, vU]) rfl rfl ?_
  repeat refine AW.s rfl ?_
  try dsimp only [List.set_cons_zero, List.set_cons_succ, Option.toList_some, Option.toList_none, List.cons_append, List.nil_append]
  refine AW.V k_0_17 ((c_last hρ hrw.1)) rfl rfl rfl rfl rfl rfl (fun r1 m1 hq => ?_)
  obtain ⟨rfl, rfl⟩ := hq
  repeat refine AW.s rfl ?_
  try dsimp only [List.set_cons_zero, List.set_cons_succ, Option.toList_some, Option.toList_none, List.cons_append, List.nil_append]
  rw [hy.1]
  refine AW.c rfl (⟨vp_in_nI (n := 0) (by decide) (by decide), fun q => absurd q (by decide)⟩) ?_
  try dsimp only [List.set_cons_zero, List.set_cons_succ, Option.toList_some, Option.toList_none, List.cons_append, List.nil_append]
  rw [show (0 : Int32).toNatClampNeg = 0 from rfl]
  repeat refine AW.s rfl ?_
  try dsimp only [List.set_cons_zero, List.set_cons_succ, Option.toList_some, Option.toList_none, List.cons_append, List.nil_append]
  rw [mUp_a (show (1 : Nat) ≠ J + 1 by omega), hV]
  refine AW.V k_0_34 ((c_vowelCount (xs := xs) (V := σ 0 0) (hy.fr (mUp_a (by omega)) (mUp_a (by omega))) hg h40 hσ.1)) rfl rfl rfl rfl rfl rfl (fun r1 m1 hq => ?_)
  obtain ⟨rfl, rfl⟩ := hq
  try dsimp only [List.set_cons_zero, List.set_cons_succ, Option.toList_some, Option.toList_none, List.cons_append, List.nil_append]
  refine AW.c rfl (⟨vp_in_nI (n := 1) (by decide) (by decide), fun q => absurd q (by decide)⟩) ?_
  try dsimp only [List.set_cons_zero, List.set_cons_succ, Option.toList_some, Option.toList_none, List.cons_append, List.nil_append]
  rw [show (1 : Int32).toNatClampNeg = 1 from rfl]
  repeat refine AW.s rfl ?_
  try dsimp only [List.set_cons_zero, List.set_cons_succ, Option.toList_some, Option.toList_none, List.cons_append, List.nil_append]
  rw [mUp_a (show ρ ≠ J + 1 by omega), mUp_a (show ρ ≠ J + 1 by omega), hρ.1]
  refine AW.c rfl (⟨vp_in_nI (n := 2) (by decide) (by decide), fun q => absurd q (by decide)⟩) ?_
  try dsimp only [List.set_cons_zero, List.set_cons_succ, Option.toList_some, Option.toList_none, List.cons_append, List.nil_append]
  rw [show (2 : Int32).toNatClampNeg = 2 from rfl]
  repeat refine AW.s rfl ?_
  try dsimp only [List.set_cons_zero, List.set_cons_succ, Option.toList_some, Option.toList_none, List.cons_append, List.nil_append]
  have hfin : ∀ v : Int32, v = fctV σ rw w xs 3 → AW (GM l X (d + 1) M_X0_regard (fun r1 m' => r1 = none ∧ (∀ k, k < 6 → m' (J + 1) k = fctV σ rw w xs k) ∧ ∀ a, a ≠ J + 1 → m' a = m1 a)) 64 [vR 1 J, vR 8 1, vR 4 ρ, vI (nI w), vR 5 h, vI (lastI rw)] [vI v, vI 3, vR 1006 (J + 1)] (mUp (mUp (mUp m1 (J + 1) 0 (nI xs.length)) (J + 1) 1 (nI (vcnt (σ 0 0) xs))) (J + 1) 2 (nI rw.length)) := by
    intro v hv
    refine AW.c rfl (⟨vp_in_nI (n := 3) (by decide) (by decide), fun q => absurd q (by decide)⟩) ?_
    try dsimp only [List.set_cons_zero, List.set_cons_succ, Option.toList_some, Option.toList_none, List.cons_append, List.nil_append]
    rw [show (3 : Int32).toNatClampNeg = 3 from rfl]
    repeat refine AW.s rfl ?_
    try dsimp only [List.set_cons_zero, List.set_cons_succ, Option.toList_some, Option.toList_none, List.cons_append, List.nil_append]
    refine AW.c rfl (⟨vp_in_nI (n := 4) (by decide) (by decide), fun q => absurd q (by decide)⟩) ?_
    try dsimp only [List.set_cons_zero, List.set_cons_succ, Option.toList_some, Option.toList_none, List.cons_append, List.nil_append]
    rw [show (4 : Int32).toNatClampNeg = 4 from rfl]
    repeat refine AW.s rfl ?_
    try dsimp only [List.set_cons_zero, List.set_cons_succ, Option.toList_some, Option.toList_none, List.cons_append, List.nil_append]
    refine AW.c rfl (vp_in_nI (by omega) (by decide)) ?_
    try dsimp only [List.set_cons_zero, List.set_cons_succ, Option.toList_some, Option.toList_none, List.cons_append, List.nil_append]
    rw [nI_clamp (by omega)]
    refine AW.c rfl (⟨vp_in_nI (n := 5) (by decide) (by decide), fun q => absurd q (by decide)⟩) ?_
    try dsimp only [List.set_cons_zero, List.set_cons_succ, Option.toList_some, Option.toList_none, List.cons_append, List.nil_append]
    rw [show (5 : Int32).toNatClampNeg = 5 from rfl]
    refine AW.rv rfl rfl ⟨rfl, fun k hk => ?_, fun a ha => by rw [mUp_a ha, mUp_a ha, mUp_a ha, mUp_a ha, mUp_a ha, mUp_a ha]⟩
    rcases k6 hk with e | e | e | e | e | e <;> subst e
    · rw [mUp_n (Or.inr (by decide)), mUp_n (Or.inr (by decide)), mUp_n (Or.inr (by decide)), mUp_n (Or.inr (by decide)), mUp_n (Or.inr (by decide)), mUp_s]; rfl
    · rw [mUp_n (Or.inr (by decide)), mUp_n (Or.inr (by decide)), mUp_n (Or.inr (by decide)), mUp_n (Or.inr (by decide)), mUp_s]; rfl
    · rw [mUp_n (Or.inr (by decide)), mUp_n (Or.inr (by decide)), mUp_n (Or.inr (by decide)), mUp_s]; rfl
    · rw [mUp_n (Or.inr (by decide)), mUp_n (Or.inr (by decide)), mUp_s]; exact hv
    · rw [mUp_n (Or.inr (by decide)), mUp_s]; rfl
    · rw [mUp_s]
      have e12 : (12 : Nat) ≠ J + 1 := by omega
      show mUp (mUp (mUp (mUp (mUp m1 _ _ _) _ _ _) _ _ _) _ _ _) _ _ _ 12 w = nI (σ 2 w)
      rw [mUp_a e12, mUp_a e12, mUp_a e12, mUp_a e12, mUp_a e12]
      exact hwt
  have hf3 : fctV σ rw w xs 3 = (match rw.getLast? with | none => 0 | some r => nI (σ 5 r)) := rfl
  cases hgl : rw.getLast? with
  | none =>
    have hli : lastI rw = -1 := by unfold lastI; rw [hgl]
    rw [hgl] at hf3
    refine AW.b rfl (fun hc => ?_) (fun hc => ?_)
    · iterate 2 refine AW.s rfl ?_
      try dsimp only [List.set_cons_zero, List.set_cons_succ, Option.toList_some, Option.toList_none, List.cons_append, List.nil_append]
      exact hfin 0 hf3.symm
    · exact absurd hli hc
  | some r =>
    have hli : lastI rw = nI r := by unfold lastI; rw [hgl]
    rw [hgl] at hf3
    have hr : r < σ 0 2 := hrw.2 r (last_mem hgl)
    have hr6 : r < 6 := Nat.lt_of_lt_of_le hr hσ.2.2.1
    refine AW.b rfl (fun hc => ?_) (fun hc => ?_)
    · rw [hli] at hc; exact absurd hc (nI_m1 (by omega))
    · repeat refine AW.s rfl ?_
      try dsimp only [List.set_cons_zero, List.set_cons_succ, Option.toList_some, Option.toList_none, List.cons_append, List.nil_append]
      rw [hli]
      refine AW.c rfl (vp_in_nI (by omega) (by decide)) ?_
      try dsimp only [List.set_cons_zero, List.set_cons_succ, Option.toList_some, Option.toList_none, List.cons_append, List.nil_append]
      rw [nI_clamp (by omega), ← hli]
      refine hfin _ ?_
      have e15 : (15 : Nat) ≠ J + 1 := by omega
      show mUp (mUp (mUp m1 _ _ _) _ _ _) _ _ _ 15 r = _
      rw [mUp_a e15, mUp_a e15, mUp_a e15, hf3]
      exact (hs.2.2.2.2.2.1 r hr).2.2
def hardB (k : Nat) (n v : Int32) : Int32 := match k with
  | 1 => v + 1
  | 2 => v * 2
  | 3 => v + 1
  | 4 => v * 2 / 2
  | 5 => v + n
  | _ => v
theorem c_hardBy {l : Launch} {X : XT} {d : Nat} {k : Nat} {n v : Int32} {m : Mem} (hk : k < 6) : Meth l X d M_X0_hardBy [vI (nI k), vI n, vI v] m (fun r1 m' => r1 = some (vI (hardB k n v)) ∧ m' = m) := by
  refine E_X0_hardBy (ls := [vI (nI k), vI n, vI v]) rfl rfl ?_
  repeat refine AW.s rfl ?_
  try dsimp only [List.set_cons_zero, List.set_cons_succ, Option.toList_some, Option.toList_none, List.cons_append, List.nil_append]
  rcases k6 hk with e | e | e | e | e | e <;> subst e
  · refine AW.tout (tgt := 54) rfl (by decide) (by decide) ?_
    repeat refine AW.s rfl ?_
    try dsimp only [List.set_cons_zero, List.set_cons_succ, Option.toList_some, Option.toList_none, List.cons_append, List.nil_append]
    exact AW.ri rfl rfl rfl ⟨rfl, rfl⟩
  · refine AW.tin (tgt := 36) rfl (by decide) (by decide) rfl (by decide) ?_
    repeat refine AW.s rfl ?_
    try dsimp only [List.set_cons_zero, List.set_cons_succ, Option.toList_some, Option.toList_none, List.cons_append, List.nil_append]
    exact AW.ri rfl rfl rfl ⟨rfl, rfl⟩
  · refine AW.tin (tgt := 40) rfl (by decide) (by decide) rfl (by decide) ?_
    repeat refine AW.s rfl ?_
    try dsimp only [List.set_cons_zero, List.set_cons_succ, Option.toList_some, Option.toList_none, List.cons_append, List.nil_append]
    exact AW.ri rfl rfl rfl ⟨rfl, rfl⟩
  · refine AW.tin (tgt := 36) rfl (by decide) (by decide) rfl (by decide) ?_
    repeat refine AW.s rfl ?_
    try dsimp only [List.set_cons_zero, List.set_cons_succ, Option.toList_some, Option.toList_none, List.cons_append, List.nil_append]
    exact AW.ri rfl rfl rfl ⟨rfl, rfl⟩
  · refine AW.tin (tgt := 44) rfl (by decide) (by decide) rfl (by decide) ?_
    repeat refine AW.s rfl ?_
    try dsimp only [List.set_cons_zero, List.set_cons_succ, Option.toList_some, Option.toList_none, List.cons_append, List.nil_append]
    refine AW.c rfl (by decide) ?_
    try dsimp only [List.set_cons_zero, List.set_cons_succ, Option.toList_some, Option.toList_none, List.cons_append, List.nil_append]
    exact AW.ri rfl rfl rfl ⟨rfl, rfl⟩
  · refine AW.tin (tgt := 50) rfl (by decide) (by decide) rfl (by decide) ?_
    repeat refine AW.s rfl ?_
    try dsimp only [List.set_cons_zero, List.set_cons_succ, Option.toList_some, Option.toList_none, List.cons_append, List.nil_append]
    exact AW.ri rfl rfl rfl ⟨rfl, rfl⟩
def hardV (σ : Sg) (rw : List Nat) (v : Int32) : Int32 := match rw.getLast? with
  | none => v
  | some r => if 0 < hardB (σ 3 r) (nI (σ 5 r)) v then hardB (σ 3 r) (nI (σ 5 r)) v else 0
theorem c_hard {l : Launch} {X : XT} {d : Nat} {J ρ T : Nat} {en : Nat → Nat} {m : Mem} {σ : Sg} {rw : List Nat} (hd : 2 ≤ d) (hs : RepS m 1 σ) (hσ : WF σ) (hrw : WFr σ rw) (hρ : RepR m ρ rw) (ht : TOK m T en) (hT : 18 ≤ T) (hJT : J + 1 < T) (hρT : ρ + 1 < T) : Meth l X d M_X0_hard [vR 1 J, vR 8 1, vR 4 ρ, vR 10 T] m (fun r1 m' => r1 = some (vI (hardV σ rw (clI (tval m T en 0 (m (J + 1)))))) ∧ ∀ a, a ≠ T + 4 → m' a = m a) := by
  obtain ⟨d, rfl⟩ : ∃ e, d = e + 1 := ⟨d - 1, by omega⟩
  refine E_X0_hard (ls := [vR 1 J, vR 8 1, vR 4 ρ, vR 10 T, vU, vU]) rfl rfl ?_
  repeat refine AW.s rfl ?_
  try dsimp only [List.set_cons_zero, List.set_cons_succ, Option.toList_some, Option.toList_none, List.cons_append, List.nil_append]
  refine AW.V k_0_47 ((c_tells (p := 0) (by omega) ht (by decide) (by omega))) rfl rfl rfl rfl rfl rfl (fun r1 m1 hq => ?_)
  obtain ⟨rfl, hf⟩ := hq
  repeat refine AW.s rfl ?_
  try dsimp only [List.set_cons_zero, List.set_cons_succ, Option.toList_some, Option.toList_none, List.cons_append, List.nil_append]
  refine AW.V k_0_17 ((c_last (hρ.fr (hf ρ (by omega)) (hf (ρ + 1) (by omega))) hrw.1)) rfl rfl rfl rfl rfl rfl (fun r1 m1 hq => ?_)
  obtain ⟨rfl, rfl⟩ := hq
  repeat refine AW.s rfl ?_
  try dsimp only [List.set_cons_zero, List.set_cons_succ, Option.toList_some, Option.toList_none, List.cons_append, List.nil_append]
  generalize clI (tval m T en 0 (m (J + 1))) = v
  have hh : hardV σ rw v = (match rw.getLast? with | none => v | some r => if 0 < hardB (σ 3 r) (nI (σ 5 r)) v then hardB (σ 3 r) (nI (σ 5 r)) v else 0) := rfl
  cases hgl : rw.getLast? with
  | none =>
    have hli : lastI rw = -1 := by unfold lastI; rw [hgl]
    rw [hgl] at hh
    refine AW.b rfl (fun hc => ?_) (fun hc => ?_)
    · repeat refine AW.s rfl ?_
      try dsimp only [List.set_cons_zero, List.set_cons_succ, Option.toList_some, Option.toList_none, List.cons_append, List.nil_append]
      exact AW.ri rfl rfl rfl ⟨by rw [hh], hf⟩
    · exact absurd hli hc
  | some r =>
    have hli : lastI rw = nI r := by unfold lastI; rw [hgl]
    rw [hgl] at hh
    have hr : r < σ 0 2 := hrw.2 r (last_mem hgl)
    have hr6 : r < 6 := Nat.lt_of_lt_of_le hr hσ.2.2.1
    have hs6 := hs.2.2.2.2.2.1 r hr
    refine AW.b rfl (fun hc => ?_) (fun hc => ?_)
    · rw [hli] at hc; exact absurd hc (nI_m1 (by omega))
    · repeat refine AW.s rfl ?_
      try dsimp only [List.set_cons_zero, List.set_cons_succ, Option.toList_some, Option.toList_none, List.cons_append, List.nil_append]
      rw [hli]
      refine AW.c rfl (vp_in_nI (by omega) (by decide)) ?_
      try dsimp only [List.set_cons_zero, List.set_cons_succ, Option.toList_some, Option.toList_none, List.cons_append, List.nil_append]
      rw [nI_clamp (by omega)]
      repeat refine AW.s rfl ?_
      try dsimp only [List.set_cons_zero, List.set_cons_succ, Option.toList_some, Option.toList_none, List.cons_append, List.nil_append]
      refine AW.c rfl (vp_in_nI (by omega) (by decide)) ?_
      try dsimp only [List.set_cons_zero, List.set_cons_succ, Option.toList_some, Option.toList_none, List.cons_append, List.nil_append]
      rw [nI_clamp (by omega)]
      have q1 : m1 13 r = nI (σ 3 r) := by rw [hf 13 (by omega)]; exact hs6.1
      have q2 : m1 15 r = nI (σ 5 r) := by rw [hf 15 (by omega)]; exact hs6.2.2
      repeat refine AW.s rfl ?_
      try dsimp only [List.set_cons_zero, List.set_cons_succ, Option.toList_some, Option.toList_none, List.cons_append, List.nil_append]
      rw [show m1 (1 + 12) r = nI (σ 3 r) from q1, show m1 (1 + 14) r = nI (σ 5 r) from q2]
      refine AW.S k_0_54 ((c_hardBy (hσ.2.2.2.2.2.2.1 r hr).1)) rfl rfl rfl rfl (fun r1 m1 hq => ?_)
      obtain ⟨rfl, rfl⟩ := hq
      try dsimp only [List.set_cons_zero, List.set_cons_succ, Option.toList_some, Option.toList_none, List.cons_append, List.nil_append]
      refine AW.mmax (G := GM l X (d + 1) M_X0_hard _) rfl k_0_58 rR1 (by decide) ?_
      try dsimp only [List.set_cons_zero, List.set_cons_succ, Option.toList_some, Option.toList_none, List.cons_append, List.nil_append]
      exact AW.ri rfl rfl rfl ⟨by rw [hh], hf⟩
end
section
def alB (n : Nat) (f : Nat → Option (List Nat)) (w : Nat) : Bool := (List.range n).any (fun j => !(j == w) && likeO (f w) (f j))
theorem alB_iff {n : Nat} {f : Nat → Option (List Nat)} {w : Nat} (hw : w < n) : alB n f w = true ↔ alikeP n f w := by
  unfold alB alikeP
  rw [List.any_eq_true]
  constructor
  · rintro ⟨j, hj, h⟩
    simp only [Bool.and_eq_true, Bool.not_eq_true', beq_eq_false_iff_ne] at h
    exact ⟨hw, j, List.mem_range.mp hj, h.1, h.2⟩
  · rintro ⟨-, j, hj, h1, h2⟩
    refine ⟨j, List.mem_range.mpr hj, ?_⟩
    simp only [Bool.and_eq_true, Bool.not_eq_true', beq_eq_false_iff_ne]
    exact ⟨h1, h2⟩
/-- what the first w words are worth, by what a text tells (part, facts) -/
def worthW (σ : Sg) (rw : List Nat) (n : Nat) (f : Nat → Option (List Nat)) (τ : Nat → (Nat → Int32) → Int32) (w : Nat) : Int32 := match w with
  | 0 => 0
  | w + 1 => match f w with
    | none => worthW σ rw n f τ w
    | some xs => if alB n f w then worthW σ rw n f τ w + (τ 1 (fctV σ rw w xs) - hardV σ rw (τ 0 (fctV σ rw w xs))) - τ 2 (fctV σ rw w xs) else worthW σ rw n f τ w + (τ 1 (fctV σ rw w xs) - hardV σ rw (τ 0 (fctV σ rw w xs)))
theorem worthW_none {σ : Sg} {rw : List Nat} {n w : Nat} {f : Nat → Option (List Nat)} {τ : Nat → (Nat → Int32) → Int32} (h : f w = none) : worthW σ rw n f τ (w + 1) = worthW σ rw n f τ w := by
  rw [worthW, h]
theorem worthW_some {σ : Sg} {rw : List Nat} {n w : Nat} {f : Nat → Option (List Nat)} {τ : Nat → (Nat → Int32) → Int32} {xs : List Nat} (h : f w = some xs) : worthW σ rw n f τ (w + 1) = if alB n f w then worthW σ rw n f τ w + (τ 1 (fctV σ rw w xs) - hardV σ rw (τ 0 (fctV σ rw w xs))) - τ 2 (fctV σ rw w xs) else worthW σ rw n f τ w + (τ 1 (fctV σ rw w xs) - hardV σ rw (τ 0 (fctV σ rw w xs))) := by
  rw [worthW, h]
theorem TOK.fr {m m' : Mem} {T : Nat} {en : Nat → Nat} (h : TOK m T en) (h1 : m' (T + 1) = m (T + 1)) (h2 : m' (T + 2) = m (T + 2)) (h3 : m' (T + 3) = m (T + 3)) (h5 : m' (T + 5) = m (T + 5)) : TOK m' T en := by
  intro p hp
  rw [h1, h2, h3, h5]
  exact h p hp
theorem tval_eq {m m' : Mem} {T p : Nat} {en : Nat → Nat} {F F' : Nat → Int32} (h : TOK m T en) (hp : p < 3) (h1 : m' (T + 1) = m (T + 1)) (h2 : m' (T + 2) = m (T + 2)) (h3 : m' (T + 3) = m (T + 3)) (hF : ∀ k, k < 6 → F k = F' k) : tval m' T en p F = tval m T en p F' := by
  obtain ⟨-, g2, g3, g4⟩ := h p hp
  unfold tval
  rw [h1, h2, h3]
  exact cvF_st g4 g3 hF (en p - 1) (by omega) (by omega) _ _ (by omega) (by omega)
/-- what a text tells -/
def tellV (m : Mem) (T : Nat) (en : Nat → Nat) (p : Nat) (F : Nat → Int32) : Int32 := clI (tval m T en p F)
theorem c_worth {l : Launch} {X : XT} {d : Nat} {J ρ T H n : Nat} {en : Nat → Nat} {m : Mem} {σ : Sg} {rw : List Nat} {f : Nat → Option (List Nat)} (hd : 3 ≤ d) (hs : RepS m 1 σ) (hσ : WF σ) (hrw : WFr σ rw) (hρ : RepR m ρ rw) (ht : TOK m T en) (hn : n ≤ σ 0 1) (hK : RepYs m H n f) (hfw : ∀ w, w < n → WFo (f w)) (hJ : 18 ≤ J) (hH : 18 ≤ H) (hJT : J + 1 < T) (hρT : ρ + 1 < T) (hHT : H + 17 < T) (hJH : J + 1 < H ∨ H + 17 < J) (hJρ : J + 1 < ρ ∨ ρ + 1 < J) : Meth l X d M_X0_worth [vR 1 J, vR 8 1, vR 4 ρ, vR 10 T, vR 6 H] m (fun r1 m' => r1 = some (vI (worthW σ rw n f (tellV m T en) n)) ∧ ∀ a, a ≠ J + 1 → a ≠ T + 4 → m' a = m a) := by
  obtain ⟨d, rfl⟩ : ∃ e, d = e + 1 := ⟨d - 1, by omega⟩
  have hn8 : n ≤ 8 := Nat.le_trans hn hσ.2.1
  refine E_X0_worth (ls := [vR 1 J, vR 8 1, vR 4 ρ, vR 10 T, vR 6 H, vU, vU, vU]) rfl rfl ?_
  repeat refine AW.s rfl ?_
  try dsimp only [List.set_cons_zero, List.set_cons_succ, Option.toList_some, Option.toList_none, List.cons_append, List.nil_append]
  refine AW.V k_0_64 ((c_alike (by omega) hn8 hK hfw)) rfl rfl rfl rfl rfl rfl (fun r1 m1 hq => ?_)
  obtain ⟨al, rfl, hal, rfl⟩ := hq
  repeat refine AW.u 13 rfl rfl ?_
  try dsimp only [List.set_cons_zero, List.set_cons_succ, Option.toList_some, Option.toList_none, List.cons_append, List.nil_append]
  refine AW.loop (pc := 13) (σ := Unit) n (fun i _ => [vR 1 J, vR 8 1, vR 4 ρ, vR 10 T, vR 6 H, vI al, vI (worthW σ rw n f (tellV m1 T en) i), vI (nI i)]) (fun i _ m2 => ∀ a, a ≠ J + 1 → a ≠ T + 4 → m2 a = m1 a) (fun i _ m2 hi hf ih => ?_) 0 () _ (Nat.zero_le _) (fun _ _ _ => rfl)
  have hK2 : RepYs m2 H n f := hK.fr hn8 (fun a h1 h2 => hf a (by omega) (by omega))
  repeat refine AW.s rfl ?_
  try dsimp only [List.set_cons_zero, List.set_cons_succ, Option.toList_some, Option.toList_none, List.cons_append, List.nil_append]
  rw [hK2.1]
  refine AW.b rfl (fun hc => ?_) (fun hc => ?_)
  · have hlt : i < n := (nI_ltI (by omega) (by omega)).mp hc
    have hyi := hK2.2 i hlt
    repeat refine AW.s rfl ?_
    try dsimp only [List.set_cons_zero, List.set_cons_succ, Option.toList_some, Option.toList_none, List.cons_append, List.nil_append]
    refine AW.c rfl (vp_in_nI (by omega) (by decide)) ?_
    try dsimp only [List.set_cons_zero, List.set_cons_succ, Option.toList_some, Option.toList_none, List.cons_append, List.nil_append]
    rw [nI_clamp (by omega)]
    refine AW.V k_0_74 (c_isTooLong) rfl rfl rfl rfl rfl rfl (fun r1 m9 hq => ?_)
    obtain ⟨rfl, hm9⟩ := hq
    rw [hm9]
    try dsimp only [List.set_cons_zero, List.set_cons_succ, Option.toList_some, Option.toList_none, List.cons_append, List.nil_append]
    cases hfi : f i with
    | none =>
      rw [hfi] at hyi
      rw [if_pos (show m2 (H + 1 + 1 + 2 * i) 1 = -1 from hyi)]
      refine AW.b rfl (fun hc => ?_) (fun hc => ?_)
      · exact absurd hc (by decide)
      · repeat refine AW.u 13 rfl rfl ?_
        try dsimp only [List.set_cons_zero, List.set_cons_succ, Option.toList_some, Option.toList_none, List.cons_append, List.nil_append]
        rw [nI_1, ← worthW_none hfi]
        exact ih () _ hlt hf
    | some xs =>
      rw [hfi] at hyi
      have wi := hfw i hlt
      rw [hfi] at wi
      obtain ⟨a1, a2, a3⟩ := wi xs rfl
      rw [if_neg (show ¬ m2 (H + 1 + 1 + 2 * i) 1 = -1 by rw [hyi.1]; exact nI_m1 (by omega))]
      have hws := worthW_some (σ := σ) (rw := rw) (n := n) (τ := tellV m1 T en) hfi
      refine AW.b rfl (fun hc => ?_) (fun hc => ?_)
      · repeat refine AW.s rfl ?_
        try dsimp only [List.set_cons_zero, List.set_cons_succ, Option.toList_some, Option.toList_none, List.cons_append, List.nil_append]
        refine AW.c rfl (vp_in_nI (by omega) (by decide)) ?_
        try dsimp only [List.set_cons_zero, List.set_cons_succ, Option.toList_some, Option.toList_none, List.cons_append, List.nil_append]
        rw [nI_clamp (by omega)]
        have hs2 : RepS m2 1 σ := hs.fr hσ.2.1 (fun a h1 h2 => hf a (by omega) (by omega))
        have hρ2 : RepR m2 ρ rw := hρ.fr (hf ρ (by omega) (by omega)) (hf (ρ + 1) (by omega) (by omega))
        have ht2 : TOK m2 T en := ht.fr (hf _ (by omega) (by omega)) (hf _ (by omega) (by omega)) (hf _ (by omega) (by omega)) (hf _ (by omega) (by omega))
        refine AW.V k_0_78 ((c_regard (by omega) hs2 hσ hrw hρ2 (show i < σ 0 1 by omega) hyi wi hJ (by omega) hJρ)) rfl rfl rfl rfl rfl rfl (fun r1 m3 hq => ?_)
        obtain ⟨rfl, p1, p2⟩ := hq
        repeat refine AW.s rfl ?_
        try dsimp only [List.set_cons_zero, List.set_cons_succ, Option.toList_some, Option.toList_none, List.cons_append, List.nil_append]
        have ht3 : TOK m3 T en := ht2.fr (p2 _ (by omega)) (p2 _ (by omega)) (p2 _ (by omega)) (p2 _ (by omega))
        have eq3 : ∀ (q : Nat), q < 3 → ∀ m' : Mem, (∀ a, a ≠ T + 4 → m' a = m3 a) → tval m' T en q (m' (J + 1)) = tval m1 T en q (fctV σ rw i xs) := by
          intro q hq m' hm'
          refine tval_eq ht hq ?_ ?_ ?_ (fun k hk => ?_)
          · rw [hm' _ (by omega), p2 _ (by omega), hf _ (by omega) (by omega)]
          · rw [hm' _ (by omega), p2 _ (by omega), hf _ (by omega) (by omega)]
          · rw [hm' _ (by omega), p2 _ (by omega), hf _ (by omega) (by omega)]
          · rw [hm' _ (by omega)]; exact p1 k hk
        refine AW.V k_0_47 ((c_tells (p := 1) (by omega) ht3 (by decide) (by omega))) rfl rfl rfl rfl rfl rfl (fun r1 m4 hq => ?_)
        obtain ⟨rfl, p3⟩ := hq
        rw [eq3 1 (by decide) m3 (fun _ _ => rfl)]
        repeat refine AW.s rfl ?_
        try dsimp only [List.set_cons_zero, List.set_cons_succ, Option.toList_some, Option.toList_none, List.cons_append, List.nil_append]
        have ht4 : TOK m4 T en := ht3.fr (p3 _ (by omega)) (p3 _ (by omega)) (p3 _ (by omega)) (p3 _ (by omega))
        refine AW.V k_0_82 ((c_hard (rw := rw) (σ := σ) (by omega) (hs2.fr hσ.2.1 (fun a h1 h2 => by rw [p3 a (by omega), p2 a (by omega)])) hσ hrw (hρ2.fr (by rw [p3 ρ (by omega), p2 ρ (by omega)]) (by rw [p3 (ρ + 1) (by omega), p2 (ρ + 1) (by omega)])) ht4 (by omega) hJT hρT)) rfl rfl rfl rfl rfl rfl (fun r1 m5 hq => ?_)
        obtain ⟨rfl, p4⟩ := hq
        rw [eq3 0 (by decide) m4 p3]
        repeat refine AW.s rfl ?_
        try dsimp only [List.set_cons_zero, List.set_cons_succ, Option.toList_some, Option.toList_none, List.cons_append, List.nil_append]
        have hal2 := hal.getU (k := i) (by omega)
        have hb := alB_iff (f := f) hlt
        have hfin : ∀ m' : Mem, (∀ a, a ≠ T + 4 → m' a = m5 a) → ∀ a, a ≠ J + 1 → a ≠ T + 4 → m' a = m1 a := by
          intro m' hm' a h1 h2
          rw [hm' a h2, p4 a h2, p3 a h2, p2 a h1, hf a h1 h2]
        by_cases hai : alB n f i = true
        · rw [hal2.1 (hb.mp hai)]
          rw [if_pos hai] at hws
          refine AW.b rfl (fun hc => ?_) (fun hc => ?_)
          · exact absurd hc (by decide)
          · repeat refine AW.s rfl ?_
            try dsimp only [List.set_cons_zero, List.set_cons_succ, Option.toList_some, Option.toList_none, List.cons_append, List.nil_append]
            have ht5 : TOK m5 T en := ht4.fr (p4 _ (by omega)) (p4 _ (by omega)) (p4 _ (by omega)) (p4 _ (by omega))
            refine AW.V k_0_47 ((c_tells (p := 2) (by omega) ht5 (by decide) (by omega))) rfl rfl rfl rfl rfl rfl (fun r1 m6 hq => ?_)
            obtain ⟨rfl, p5⟩ := hq
            rw [eq3 2 (by decide) m5 (fun a ha => by rw [p4 a ha, p3 a ha])]
            repeat refine AW.u 13 rfl rfl ?_
            try dsimp only [List.set_cons_zero, List.set_cons_succ, Option.toList_some, Option.toList_none, List.cons_append, List.nil_append]
            rw [nI_1]
            refine AW.at (ih () _ hlt (hfin m6 p5)) rfl ?_ rfl rfl
            rw [hws]
            rfl
        · rw [hal2.2 (fun q => hai (hb.mpr q))]
          rw [if_neg hai] at hws
          refine AW.b rfl (fun hc => ?_) (fun hc => ?_)
          · repeat refine AW.u 13 rfl rfl ?_
            try dsimp only [List.set_cons_zero, List.set_cons_succ, Option.toList_some, Option.toList_none, List.cons_append, List.nil_append]
            rw [nI_1]
            refine AW.at (ih () _ hlt (hfin m5 (fun _ _ => rfl))) rfl ?_ rfl rfl
            rw [hws]
            rfl
          · exact absurd rfl hc
      · exact absurd rfl hc
  · have : i = n := by
      have : ¬ i < n := fun q => hc ((nI_ltI (by omega) (by omega)).mpr q)
      omega
    subst this
    repeat refine AW.s rfl ?_
    try dsimp only [List.set_cons_zero, List.set_cons_succ, Option.toList_some, Option.toList_none, List.cons_append, List.nil_append]
    exact AW.ri rfl rfl rfl ⟨rfl, hf⟩
end
section
-- ===== the model =====
def RepM (m : Mem) (σ : Sg) : Prop :=
  m 243 0 = nI (σ 0 0) ∧ m 243 1 = nI (σ 0 1) ∧ m 243 5 = nI (σ 0 2) ∧ m 243 9 = nI (σ 0 3) ∧ m 243 14 = nI (σ 0 4) ∧
  (∀ w, w < σ 0 1 → m 245 w = nI (σ 1 w) ∧ m 246 w = nI (σ 2 w) ∧ ∀ k, k < σ 1 w → m 244 (10 * w + k) = nI (σ (10 + w) k)) ∧
  (∀ r, r < σ 0 2 → m 247 r = nI (σ 3 r) ∧ m 248 r = nI (σ 4 r) ∧ m 249 r = nI (σ 5 r)) ∧ ∀ i, i < σ 0 3 → m 250 i = nI (σ 6 i)
theorem RepM.fr {m m' : Mem} {σ : Sg} (h : RepM m σ) (h0 : m' 243 0 = m 243 0) (h1 : m' 243 1 = m 243 1) (h5 : m' 243 5 = m 243 5) (h9 : m' 243 9 = m 243 9) (h14 : m' 243 14 = m 243 14) (hf : ∀ a, 244 ≤ a → a ≤ 250 → m' a = m a) : RepM m' σ := by
  obtain ⟨a1, a2, a3, a4, a5, a6, a7, a8⟩ := h
  refine ⟨by rw [h0]; exact a1, by rw [h1]; exact a2, by rw [h5]; exact a3, by rw [h9]; exact a4, by rw [h14]; exact a5, fun w hw => ?_, fun r hr => ?_, fun i hi => ?_⟩
  · rw [hf 244 (by decide) (by decide), hf 245 (by decide) (by decide), hf 246 (by decide) (by decide)]; exact a6 w hw
  · rw [hf 247 (by decide) (by decide), hf 248 (by decide) (by decide), hf 249 (by decide) (by decide)]; exact a7 r hr
  · rw [hf 250 (by decide) (by decide)]; exact a8 i hi
/-- what turning changes -/
def FrT (m m' : Mem) : Prop := (∀ a, a ≠ 243 → a ≠ 262 → a ≠ 263 → m' a = m a) ∧ ∀ k, k ≠ 36 → m' 243 k = m 243 k
/-- what saying changes -/
def FrS (m m' : Mem) : Prop := (∀ a, a ≠ 243 → a ≠ 260 → a ≠ 261 → a ≠ 262 → a ≠ 263 → m' a = m a) ∧ ∀ k, k ≠ 36 → m' 243 k = m 243 k
theorem FrT.rf {m : Mem} : FrT m m := ⟨fun _ _ _ _ => rfl, fun _ _ => rfl⟩
theorem FrS.rf {m : Mem} : FrS m m := ⟨fun _ _ _ _ _ _ => rfl, fun _ _ => rfl⟩
theorem FrT.tr {m m' m'' : Mem} (h1 : FrT m m') (h2 : FrT m' m'') : FrT m m'' := ⟨fun a x y z => by rw [h2.1 a x y z, h1.1 a x y z], fun k q => by rw [h2.2 k q, h1.2 k q]⟩
theorem FrS.tr {m m' m'' : Mem} (h1 : FrS m m') (h2 : FrS m' m'') : FrS m m'' := ⟨fun a x y z u v => by rw [h2.1 a x y z u v, h1.1 a x y z u v], fun k q => by rw [h2.2 k q, h1.2 k q]⟩
theorem FrT.S {m m' : Mem} (h : FrT m m') : FrS m m' := ⟨fun a x _ _ u v => h.1 a x u v, h.2⟩
theorem RepM.T {m m' : Mem} {σ : Sg} (h : RepM m σ) (hf : FrT m m') : RepM m' σ := h.fr (hf.2 0 (by decide)) (hf.2 1 (by decide)) (hf.2 5 (by decide)) (hf.2 9 (by decide)) (hf.2 14 (by decide)) (fun a h1 h2 => hf.1 a (by omega) (by omega) (by omega))
theorem RepM.S {m m' : Mem} {σ : Sg} (h : RepM m σ) (hf : FrS m m') : RepM m' σ := h.fr (hf.2 0 (by decide)) (hf.2 1 (by decide)) (hf.2 5 (by decide)) (hf.2 9 (by decide)) (hf.2 14 (by decide)) (fun a h1 h2 => hf.1 a (by omega) (by omega) (by omega) (by omega) (by omega))
/-- what is being turned -/
def RTn (m : Mem) (o : Option (List Nat)) : Prop := match o with
  | none => m 243 36 = -3
  | some xs => m 243 36 = nI xs.length ∧ RLn (m 262) xs
theorem c_isIn {l : Launch} {X : XT} {d : Nat} {v a b : Int32} {m : Mem} : Meth l X d M_X11_isIn [vI v, vI a, vI b] m (fun r m' => r = some (vI (if v < a then 0 else if b < v then 0 else 1)) ∧ m' = m) := by
  refine E_X11_isIn (ls := [vI v, vI a, vI b]) rfl rfl ?_
  repeat refine AW.s rfl ?_
  try dsimp only [List.set_cons_zero, List.set_cons_succ, Option.toList_some, Option.toList_none, List.cons_append, List.nil_append]
  refine AW.b rfl (fun hc => ?_) (fun hc => ?_)
  · have e1 := hc
    repeat refine AW.s rfl ?_
    try dsimp only [List.set_cons_zero, List.set_cons_succ, Option.toList_some, Option.toList_none, List.cons_append, List.nil_append]
    exact AW.ri rfl rfl rfl ⟨by rw [if_pos e1], rfl⟩
  · have e1 := hc
    repeat refine AW.s rfl ?_
    try dsimp only [List.set_cons_zero, List.set_cons_succ, Option.toList_some, Option.toList_none, List.cons_append, List.nil_append]
    refine AW.b rfl (fun hc => ?_) (fun hc => ?_)
    · have e2 := hc
      repeat refine AW.s rfl ?_
      try dsimp only [List.set_cons_zero, List.set_cons_succ, Option.toList_some, Option.toList_none, List.cons_append, List.nil_append]
      exact AW.ri rfl rfl rfl ⟨by rw [if_neg e1, if_pos e2], rfl⟩
    · have e2 := hc
      repeat refine AW.s rfl ?_
      try dsimp only [List.set_cons_zero, List.set_cons_succ, Option.toList_some, Option.toList_none, List.cons_append, List.nil_append]
      exact AW.ri rfl rfl rfl ⟨by rw [if_neg e1, if_neg e2], rfl⟩
theorem in_nI {v : Int32} {n : Nat} (hn : n < 2 ^ 31) : (if v < 0 then (0 : Int32) else if nI n - 1 < v then 0 else 1) = 1 ↔ ∃ j, j < n ∧ v = nI j := by
  by_cases h0 : v < 0
  · rw [if_pos h0]
    constructor
    · intro h; exact absurd h (by decide)
    · rintro ⟨j, hj, rfl⟩; exact absurd h0 (nI_pos (by omega))
  · rw [if_neg h0]
    obtain ⟨j, hj, rfl⟩ := nI_of h0
    cases n with
    | zero =>
      rw [if_pos (show nI 0 - 1 < nI j from Int32.lt_of_lt_of_le (b := 0) (by decide) (nI_pos' hj))]
      constructor
      · intro h; exact absurd h (by decide)
      · rintro ⟨q, hq, -⟩; omega
    | succ n =>
      rw [nI_pred]
      by_cases h1 : n < j
      · rw [if_pos (nI_lt h1 hj)]
        constructor
        · intro h; exact absurd h (by decide)
        · rintro ⟨q, hq, e⟩
          have := (nI_eq hj (by omega)).mp e
          omega
      · rw [if_neg (fun q => h1 ((nI_ltI (by omega) hj).mp q))]
        exact ⟨fun _ => ⟨j, by omega, rfl⟩, fun _ => rfl⟩
theorem in_nI0 {v : Int32} {n : Nat} (hn : n < 2 ^ 31) (h : ¬ ∃ j, j < n ∧ v = nI j) : (if v < 0 then (0 : Int32) else if nI n - 1 < v then 0 else 1) = 0 := by
  by_cases h0 : v < 0
  · rw [if_pos h0]
  · rw [if_neg h0]
    by_cases h1 : nI n - 1 < v
    · rw [if_pos h1]
    · exact absurd ((in_nI hn).mp (by rw [if_neg h0, if_neg h1])) h
/-- 1 if it is one of the first n numbers -/
def inB (v : Int32) (n : Nat) : Int32 := if v < 0 then 0 else if nI n - 1 < v then 0 else 1
theorem inB_1 {v : Int32} {n : Nat} (hn : n < 2 ^ 31) : inB v n = 1 ↔ ∃ j, j < n ∧ v = nI j := in_nI hn
theorem inB_0 {v : Int32} {n : Nat} (hn : n < 2 ^ 31) (h : ¬ inB v n = 1) : inB v n = 0 := in_nI0 hn (fun q => h ((in_nI hn).mpr q))
theorem c_MisWord {l : Launch} {X : XT} {d : Nat} {v : Int32} {m : Mem} {σ : Sg} (hd : 1 ≤ d) (hs : RepM m σ) : Meth l X d M_X11_isWord [vR 12 243, vI v] m (fun r m' => r = some (vI (inB v (σ 0 1))) ∧ m' = m) := by
  obtain ⟨d, rfl⟩ : ∃ e, d = e + 1 := ⟨d - 1, by omega⟩
  refine E_X11_isWord (ls := [vR 12 243, vI v]) rfl rfl ?_
  repeat refine AW.s rfl ?_
  try dsimp only [List.set_cons_zero, List.set_cons_succ, Option.toList_some, Option.toList_none, List.cons_append, List.nil_append]
  rw [hs.2.1]
  refine AW.S k_11_7 (c_isIn) rfl rfl rfl rfl (fun r1 m1 hq => ?_)
  obtain ⟨rfl, rfl⟩ := hq
  try dsimp only [List.set_cons_zero, List.set_cons_succ, Option.toList_some, Option.toList_none, List.cons_append, List.nil_append]
  have hn : narrow .boolean (.int (inB v (σ 0 1))) = .int (inB v (σ 0 1)) := by
    unfold inB
    split
    · rfl
    · split <;> rfl
  exact AW.ri rfl rfl hn ⟨rfl, rfl⟩
theorem c_MisRule {l : Launch} {X : XT} {d : Nat} {v : Int32} {m : Mem} {σ : Sg} (hd : 1 ≤ d) (hs : RepM m σ) : Meth l X d M_X11_isRule [vR 12 243, vI v] m (fun r m' => r = some (vI (inB v (σ 0 2))) ∧ m' = m) := by
  obtain ⟨d, rfl⟩ : ∃ e, d = e + 1 := ⟨d - 1, by omega⟩
  refine E_X11_isRule (ls := [vR 12 243, vI v]) rfl rfl ?_
  repeat refine AW.s rfl ?_
  try dsimp only [List.set_cons_zero, List.set_cons_succ, Option.toList_some, Option.toList_none, List.cons_append, List.nil_append]
  rw [hs.2.2.1]
  refine AW.S k_11_7 (c_isIn) rfl rfl rfl rfl (fun r1 m1 hq => ?_)
  obtain ⟨rfl, rfl⟩ := hq
  try dsimp only [List.set_cons_zero, List.set_cons_succ, Option.toList_some, Option.toList_none, List.cons_append, List.nil_append]
  have hn : narrow .boolean (.int (inB v (σ 0 2))) = .int (inB v (σ 0 2)) := by
    unfold inB
    split
    · rfl
    · split <;> rfl
  exact AW.ri rfl rfl hn ⟨rfl, rfl⟩
theorem c_MisVowel {l : Launch} {X : XT} {d : Nat} {c V : Nat} {m : Mem} (hV : m 243 0 = nI V) (hV2 : V < 2 ^ 26) (hc26 : c < 26) : Meth l X d M_X11_isVowel [vR 12 243, vI (nI c)] m (fun r m' => r = some (vI (if V.testBit c then 1 else 0)) ∧ m' = m) := by
  refine E_X11_isVowel (ls := [vR 12 243, vI (nI c)]) rfl rfl ?_
  repeat refine AW.s rfl ?_
  try dsimp only [List.set_cons_zero, List.set_cons_succ, Option.toList_some, Option.toList_none, List.cons_append, List.nil_append]
  rw [hV, vow_s (by omega) (by omega)]
  by_cases q : V.testBit c = true
  · rw [show nI (if V.testBit c = true then 1 else 0) = 1 by rw [if_pos q]; rfl, if_pos q]
    refine AW.b rfl (fun hc => ?_) (fun hc => ?_)
    · repeat refine AW.s rfl ?_
      try dsimp only [List.set_cons_zero, List.set_cons_succ, Option.toList_some, Option.toList_none, List.cons_append, List.nil_append]
      exact AW.ri rfl rfl rfl ⟨rfl, rfl⟩
    · exact absurd rfl hc
  · rw [show nI (if V.testBit c = true then 1 else 0) = 0 by rw [if_neg q]; rfl, if_neg q]
    refine AW.b rfl (fun hc => ?_) (fun hc => ?_)
    · exact absurd hc (by decide)
    · repeat refine AW.s rfl ?_
      try dsimp only [List.set_cons_zero, List.set_cons_succ, Option.toList_some, Option.toList_none, List.cons_append, List.nil_append]
      exact AW.ri rfl rfl rfl ⟨rfl, rfl⟩
theorem c_Mbegin {l : Launch} {X : XT} {d : Nat} {w : Nat} {m : Mem} {σ : Sg} (hs : RepM m σ) (hσ : WF σ) (hw : w < σ 0 1) : Meth l X d M_X11_begin [vR 12 243, vI (nI w)] m (fun r m' => r = none ∧ RTn m' (some (wl σ w)) ∧ FrT m m') := by
  obtain ⟨-, -, -, -, -, a6, -⟩ := hs
  obtain ⟨q1, q2, q3⟩ := a6 w hw
  obtain ⟨g1, g2, -, g4⟩ := hσ.2.2.2.2.2.1 w hw
  have hw8 : w < 8 := Nat.lt_of_lt_of_le hw hσ.2.1
  refine E_X11_begin (ls := [vR 12 243, vI (nI w), vU]) rfl rfl ?_
  repeat refine AW.s rfl ?_
  try dsimp only [List.set_cons_zero, List.set_cons_succ, Option.toList_some, Option.toList_none, List.cons_append, List.nil_append]
  refine AW.c rfl (vp_in_nI (by omega) (by decide)) ?_
  try dsimp only [List.set_cons_zero, List.set_cons_succ, Option.toList_some, Option.toList_none, List.cons_append, List.nil_append]
  rw [nI_clamp (by omega), show m (243 + 2) w = nI (σ 1 w) from q1]
  repeat refine AW.u 12 rfl rfl ?_
  try dsimp only [List.set_cons_zero, List.set_cons_succ, Option.toList_some, Option.toList_none, List.cons_append, List.nil_append]
  refine AW.loop (pc := 12) (σ := Unit) (σ 1 w) (fun i _ => [vR 12 243, vI (nI w), vI (nI i)]) (fun i _ m1 => FrT m m1 ∧ m1 243 36 = nI (σ 1 w) ∧ ∀ k, k < i → m1 262 k = nI (σ (10 + w) k)) (fun i _ m1 hi hm1 ih => ?_) 0 () _ (Nat.zero_le _) ⟨⟨fun a h1 _ _ => mUp_a h1, fun k hk => mUp_n (Or.inr hk)⟩, mUp_s _ _ _ _, fun k hk => absurd hk (by omega)⟩
  obtain ⟨hf, hz, hv⟩ := hm1
  repeat refine AW.s rfl ?_
  try dsimp only [List.set_cons_zero, List.set_cons_succ, Option.toList_some, Option.toList_none, List.cons_append, List.nil_append]
  rw [hz]
  refine AW.b rfl (fun hc => ?_) (fun hc => ?_)
  · have hlt : i < σ 1 w := (nI_ltI (by omega) (by omega)).mp hc
    repeat refine AW.s rfl ?_
    try dsimp only [List.set_cons_zero, List.set_cons_succ, Option.toList_some, Option.toList_none, List.cons_append, List.nil_append]
    rw [show (10 : Int32) * nI w = nI (10 * w) from pk_mul 10 w, nI_add]
    refine AW.c rfl (vp_in_nI (by omega) (by decide)) ?_
    try dsimp only [List.set_cons_zero, List.set_cons_succ, Option.toList_some, Option.toList_none, List.cons_append, List.nil_append]
    rw [nI_clamp (by omega), show m1 (243 + 1) (10 * w + i) = nI (σ (10 + w) i) by rw [hf.1 _ (by decide) (by decide) (by decide)]; exact q3 i hlt]
    refine AW.c rfl (⟨vp_in_nI (by omega) (by decide), fun q => absurd q (by decide)⟩) ?_
    try dsimp only [List.set_cons_zero, List.set_cons_succ, Option.toList_some, Option.toList_none, List.cons_append, List.nil_append]
    rw [nI_clamp (by omega)]
    repeat refine AW.u 12 rfl rfl ?_
    try dsimp only [List.set_cons_zero, List.set_cons_succ, Option.toList_some, Option.toList_none, List.cons_append, List.nil_append]
    rw [nI_1]
    refine ih () _ hlt ⟨hf.tr ⟨fun a _ h2 _ => mUp_a h2, fun k _ => mUp_n (Or.inl (by decide))⟩, by rw [mUp_a (by decide)]; exact hz, fun k hk => ?_⟩
    by_cases e : k = i
    · subst e; exact mUp_s _ _ _ _
    · rw [mUp_n (Or.inr e)]; exact hv k (by omega)
  · have : i = σ 1 w := by
      have : ¬ i < σ 1 w := fun q => hc ((nI_ltI (by omega) (by omega)).mpr q)
      omega
    subst this
    exact AW.rv rfl rfl ⟨rfl, ⟨by rw [wl_len]; exact hz, fun k x hk => by obtain ⟨h1, rfl⟩ := wl_get hk; exact hv k h1⟩, hf⟩
end
section
def gT (V K lt n x : Nat) : List Nat := (if K = 2 ∨ (K = 4 ∧ V.testBit x = true) then (x + n) % 26 else x) :: (if (K = 1 ∨ K = 3) ∧ V.testBit x = true then [lt] else [])
def zT (K : Nat) (xs : List Nat) : List Nat := if K = 5 then xs.reverse else xs
def oT (V K lt n : Nat) (xs : List Nat) : List Nat := (zT K xs).flatMap (gT V K lt n)
theorem flat_take {α : Type} {zs : List Nat} {g : Nat → List α} {i x : Nat} (h : zs[i]? = some x) : (zs.take (i + 1)).flatMap g = (zs.take i).flatMap g ++ g x := by
  rw [List.take_add_one, h, List.flatMap_append]
  simp
theorem gT_len {V K lt n x : Nat} : (gT V K lt n x).length ≤ 2 := by
  unfold gT
  split <;> split <;> simp
theorem flat_len {V K lt n : Nat} (zs : List Nat) : (zs.flatMap (gT V K lt n)).length ≤ 2 * zs.length := by
  induction zs with
  | nil => simp
  | cons a r ih =>
    rw [List.flatMap_cons, List.length_append, List.length_cons]
    have := gT_len (V := V) (K := K) (lt := lt) (n := n) (x := a)
    omega
theorem oT_turn {V K lt n : Nat} {xs : List Nat} (hK : K < 6) (hl : xs.length ≤ 40) : lim (if K = 3 then oT V K lt n xs ++ (oT V K lt n xs).take 1 else oT V K lt n xs) = turnL V K lt n xs := by
  have hid : ∀ zs : List Nat, zs.flatMap (fun x => [x]) = zs := by
    intro zs; induction zs with
    | nil => rfl
    | cons a r ih => rw [List.flatMap_cons, ih]; rfl
  have hmap : ∀ (f : Nat → Nat) (zs : List Nat), zs.flatMap (fun x => [f x]) = zs.map f := by
    intro f zs; induction zs with
    | nil => rfl
    | cons a r ih => rw [List.flatMap_cons, ih]; rfl
  rcases k6 hK with e | e | e | e | e | e <;> subst e
  · have h1 : oT V 0 lt n xs = xs := by
      unfold oT zT; rw [if_neg (by decide)]
      have : gT V 0 lt n = fun x => [x] := by funext x; simp [gT]
      rw [this, hid]
    rw [if_neg (by decide), h1]
    unfold lim turnL
    rw [if_pos hl]
    rfl
  · have h1 : oT V 1 lt n xs = insA V lt xs := by
      unfold oT zT insA; rw [if_neg (by decide)]
      congr 1
      funext x
      by_cases q : V.testBit x = true <;> simp [gT, q]
    rw [if_neg (by decide), h1]
    rfl
  · have h1 : oT V 2 lt n xs = shf n xs := by
      unfold oT zT shf; rw [if_neg (by decide)]
      have : gT V 2 lt n = fun x => [(x + n) % 26] := by funext x; simp [gT]
      rw [this, hmap]
    rw [if_neg (by decide), h1]
    unfold lim turnL
    rw [if_pos (by simp [shf]; exact hl)]
    rfl
  · have h1 : oT V 3 lt n xs = insA V lt xs := by
      unfold oT zT insA; rw [if_neg (by decide)]
      congr 1
      funext x
      by_cases q : V.testBit x = true <;> simp [gT, q]
    rw [if_pos rfl, h1]
    rfl
  · have h1 : oT V 4 lt n xs = shV V n xs := by
      unfold oT zT shV; rw [if_neg (by decide)]
      have : gT V 4 lt n = fun x => [if V.testBit x = true then (x + n) % 26 else x] := by
        funext x
        by_cases q : V.testBit x = true <;> simp [gT, q]
      rw [this, hmap]
    rw [if_neg (by decide), h1]
    unfold lim turnL
    rw [if_pos (by simp [shV]; exact hl)]
    rfl
  · have h1 : oT V 5 lt n xs = xs.reverse := by
      unfold oT zT; rw [if_pos rfl]
      have : gT V 5 lt n = fun x => [x] := by funext x; simp [gT]
      rw [this, hid]
    rw [if_neg (by decide), h1]
    unfold lim turnL
    rw [if_pos (by simp; exact hl)]
    rfl
theorem RLn_add {g : Nat → Int32} {ys : List Nat} {v : Nat} (h : RLn g ys) : RLn (upd g ys.length (nI v)) (ys ++ [v]) := by
  intro k x hk
  by_cases e : k = ys.length
  · subst e
    rw [List.getElem?_append_right (Nat.le_refl _), Nat.sub_self] at hk
    cases hk
    simp [upd]
  · have hk2 : k < ys.length := by
      have := (List.getElem?_eq_some_iff.mp hk).1
      rw [List.length_append] at this
      have : k < ys.length + 1 := this
      omega
    rw [List.getElem?_append_left hk2] at hk
    simp only [upd, if_neg e]
    exact h k x hk
theorem mUp_row (m : Mem) (h k : Nat) (x : Int32) : mUp m h k x h = upd (m h) k x := mSr_s _ _ _
theorem c_Mturn {l : Launch} {X : XT} {d : Nat} {r : Nat} {m : Mem} {σ : Sg} {xs : List Nat} (hd : 1 ≤ d) (hs : RepM m σ) (hσ : WF σ) (hr : r < σ 0 2) (hy : RTn m (some xs)) (ho : WFo (some xs)) : Meth l X d M_X11_turn [vR 12 243, vI (nI r)] m (fun r1 m' => r1 = none ∧ RTn m' (turnS σ r (some xs)) ∧ FrT m m') := by
  obtain ⟨d, rfl⟩ : ∃ e, d = e + 1 := ⟨d - 1, by omega⟩
  obtain ⟨hg, h1l, h40⟩ := ho xs rfl
  have hr6 : r < 6 := Nat.lt_of_lt_of_le hr hσ.2.2.1
  obtain ⟨q1, q2, q3⟩ := hs.2.2.2.2.2.2.1 r hr
  obtain ⟨w1, w2, w3⟩ := hσ.2.2.2.2.2.2.1 r hr
  have hV := hs.1
  have hV26 := hσ.1
  have hts : turnS σ r (some xs) = turnL (σ 0 0) (σ 3 r) (σ 4 r) (σ 5 r) xs := rfl
  rw [hts, ← oT_turn w1 h40]
  generalize σ 0 0 = V at *
  generalize σ 3 r = K at *
  generalize σ 4 r = lt at *
  generalize σ 5 r = n at *
  refine E_X11_turn (ls := [vR 12 243, vI (nI r), vU, vU, vU, vU, vU]) rfl rfl ?_
  repeat refine AW.s rfl ?_
  try dsimp only [List.set_cons_zero, List.set_cons_succ, Option.toList_some, Option.toList_none, List.cons_append, List.nil_append]
  refine AW.c rfl (vp_in_nI (by omega) (by decide)) ?_
  try dsimp only [List.set_cons_zero, List.set_cons_succ, Option.toList_some, Option.toList_none, List.cons_append, List.nil_append]
  rw [nI_clamp (by omega), show m (243 + 4) r = nI K from q1]
  repeat refine AW.u 12 rfl rfl ?_
  try dsimp only [List.set_cons_zero, List.set_cons_succ, Option.toList_some, Option.toList_none, List.cons_append, List.nil_append]
  have hzl : (zT K xs).length = xs.length := by unfold zT; split <;> simp
  refine AW.loop (pc := 12) (σ := Unit) xs.length (fun i _ => [vR 12 243, vI (nI r), vI (nI (((zT K xs).take i).flatMap (gT V K lt n)).length), vI (nI K), vI (nI i), vU, vU]) (fun i _ m1 => FrT m m1 ∧ m1 243 36 = nI xs.length ∧ m1 262 = m 262 ∧ RLn (m1 263) (((zT K xs).take i).flatMap (gT V K lt n))) (fun i _ m1 hi hm1 ih => ?_) 0 () m (Nat.zero_le _) ⟨FrT.rf, hy.1, rfl, fun k x hk => by simp at hk⟩
  obtain ⟨hf, hz, h262, hv⟩ := hm1
  repeat refine AW.s rfl ?_
  try dsimp only [List.set_cons_zero, List.set_cons_succ, Option.toList_some, Option.toList_none, List.cons_append, List.nil_append]
  rw [hz]
  refine AW.b rfl (fun hc => ?_) (fun hc => ?_)
  · have hlt : i < xs.length := (nI_ltI (by omega) (by omega)).mp hc
    obtain ⟨x, hx⟩ : ∃ x, (zT K xs)[i]? = some x := ⟨_, List.getElem?_eq_getElem (by omega)⟩
    have hx26 : x < 26 := by
      have hm := List.mem_of_getElem? hx
      unfold zT at hm
      split at hm
      · exact hg x (List.mem_reverse.mp hm)
      · exact hg x hm
    have hft := flat_take (g := gT V K lt n) hx
    have hpl : (((zT K xs).take i).flatMap (gT V K lt n)).length ≤ 78 := by
      have := flat_len (V := V) (K := K) (lt := lt) (n := n) ((zT K xs).take i)
      rw [List.length_take] at this
      omega
    generalize hP : ((zT K xs).take i).flatMap (gT V K lt n) = P at *
    have hV1 : m1 243 0 = nI V := by rw [hf.2 0 (by decide)]; exact hV
    -- from the place where the letter has been stored
    have hD : ∀ m2 : Mem, FrT m m2 → m2 243 36 = nI xs.length → m2 262 = m 262 → ∀ v : Nat, v = (if K = 2 ∨ (K = 4 ∧ V.testBit x = true) then (x + n) % 26 else x) → RLn (m2 263) (P ++ [v]) → ∀ b : AV, AW (GM l X (d + 1) M_X11_turn (fun r1 m' => r1 = none ∧ RTn m' (lim (if K = 3 then oT V K lt n xs ++ (oT V K lt n xs).take 1 else oT V K lt n xs)) ∧ FrT m m')) 106 [vR 12 243, vI (nI r), vI (nI P.length), vI (nI K), vI (nI i), vI (nI x), b] [] m2 := by
      intro m2 hf2 hz2 h2622 v hvv hv2 b
      have hE : (((zT K xs).take (i + 1)).flatMap (gT V K lt n)) = P ++ [v] → AW (GM l X (d + 1) M_X11_turn (fun r1 m' => r1 = none ∧ RTn m' (lim (if K = 3 then oT V K lt n xs ++ (oT V K lt n xs).take 1 else oT V K lt n xs)) ∧ FrT m m')) 143 [vR 12 243, vI (nI r), vI (nI (P.length + 1)), vI (nI K), vI (nI i), vI (nI x), b] [] m2 := by
        intro e
        repeat refine AW.u 12 rfl rfl ?_
        try dsimp only [List.set_cons_zero, List.set_cons_succ, Option.toList_some, Option.toList_none, List.cons_append, List.nil_append]
        rw [nI_1]
        refine AW.fg 5 (AW.fg 6 ?_)
        try dsimp only [List.set_cons_zero, List.set_cons_succ, Option.toList_some, Option.toList_none, List.cons_append, List.nil_append]
        refine AW.at (ih () m2 hlt ⟨hf2, hz2, h2622, by rw [e]; exact hv2⟩) rfl ?_ rfl rfl
        rw [e, List.length_append]
        rfl
      have hV2 : m2 243 0 = nI V := by rw [hf2.2 0 (by decide)]; exact hV
      have hF : (K = 1 ∨ K = 3) → AW (GM l X (d + 1) M_X11_turn (fun r1 m' => r1 = none ∧ RTn m' (lim (if K = 3 then oT V K lt n xs ++ (oT V K lt n xs).take 1 else oT V K lt n xs)) ∧ FrT m m')) 119 [vR 12 243, vI (nI r), vI (nI (P.length + 1)), vI (nI K), vI (nI i), vI (nI x), b] [] m2 := by
        intro hK13
        repeat refine AW.s rfl ?_
        try dsimp only [List.set_cons_zero, List.set_cons_succ, Option.toList_some, Option.toList_none, List.cons_append, List.nil_append]
        refine AW.V k_11_211 ((c_MisVowel hV2 hV26 hx26)) rfl rfl rfl rfl rfl rfl (fun r1 m9 hq => ?_)
        obtain ⟨rfl, hm9⟩ := hq
        rw [hm9]
        try dsimp only [List.set_cons_zero, List.set_cons_succ, Option.toList_some, Option.toList_none, List.cons_append, List.nil_append]
        by_cases q : V.testBit x = true
        · rw [if_pos q]
          refine AW.b rfl (fun hc => ?_) (fun hc => ?_)
          · exact absurd hc (by decide)
          · repeat refine AW.s rfl ?_
            try dsimp only [List.set_cons_zero, List.set_cons_succ, Option.toList_some, Option.toList_none, List.cons_append, List.nil_append]
            refine AW.c rfl (vp_in_nI (by omega) (by decide)) ?_
            try dsimp only [List.set_cons_zero, List.set_cons_succ, Option.toList_some, Option.toList_none, List.cons_append, List.nil_append]
            rw [nI_clamp (by omega), show m2 (243 + 5) r = nI lt by rw [hf2.1 _ (by decide) (by decide) (by decide)]; exact q2]
            refine AW.c rfl (⟨vp_in_nI (by omega) (by decide), fun q => absurd q (by decide)⟩) ?_
            try dsimp only [List.set_cons_zero, List.set_cons_succ, Option.toList_some, Option.toList_none, List.cons_append, List.nil_append]
            rw [nI_clamp (by omega)]
            repeat refine AW.u 12 rfl rfl ?_
            try dsimp only [List.set_cons_zero, List.set_cons_succ, Option.toList_some, Option.toList_none, List.cons_append, List.nil_append]
            rw [nI_1, nI_1]
            have hgx : gT V K lt n x = [v, lt] := by
              unfold gT
              rw [← hvv, if_pos ⟨hK13, q⟩]
            refine AW.fg 5 (AW.fg 6 ?_)
            try dsimp only [List.set_cons_zero, List.set_cons_succ, Option.toList_some, Option.toList_none, List.cons_append, List.nil_append]
            refine AW.at (ih () _ hlt ⟨hf2.tr ⟨fun a _ _ h3 => mUp_a h3, fun k _ => mUp_n (Or.inl (by decide))⟩, by rw [mUp_a (by decide)]; exact hz2, by rw [mUp_a (by decide)]; exact h2622, ?_⟩) rfl ?_ rfl rfl
            · rw [hft, hgx, show P ++ [v, lt] = (P ++ [v]) ++ [lt] by simp, mUp_row]
              have h9 := RLn_add (v := lt) hv2
              rw [List.length_append] at h9
              exact h9
            · rw [hft, hgx, List.length_append]
              rfl
        · rw [if_neg q]
          refine AW.b rfl (fun hc => ?_) (fun hc => ?_)
          · refine hE ?_
            rw [hft]
            unfold gT
            rw [← hvv, if_neg (fun z => q z.2)]
          · exact absurd rfl hc
      repeat refine AW.s rfl ?_
      try dsimp only [List.set_cons_zero, List.set_cons_succ, Option.toList_some, Option.toList_none, List.cons_append, List.nil_append]
      rw [nI_1]
      refine AW.b rfl (fun hc => ?_) (fun hc => ?_)
      · have e : K = 1 := (nI_eq (b := 1) (by omega) (by decide)).mp hc
        exact hF (Or.inl e)
      · have e1 : ¬ K = 1 := fun q => hc (by rw [q]; rfl)
        repeat refine AW.s rfl ?_
        try dsimp only [List.set_cons_zero, List.set_cons_succ, Option.toList_some, Option.toList_none, List.cons_append, List.nil_append]
        refine AW.b rfl (fun hc => ?_) (fun hc => ?_)
        · have e : K = 3 := (nI_eq (b := 3) (by omega) (by decide)).mp hc
          exact hF (Or.inr e)
        · have e3 : ¬ K = 3 := fun q => hc (by rw [q]; rfl)
          refine hE ?_
          rw [hft]
          unfold gT
          rw [← hvv, if_neg (fun z => z.1.elim e1 e3)]
    -- from the place where it is known whether it shifts
    have hB : ∀ b : Bool, (b = true ↔ (K = 2 ∨ (K = 4 ∧ V.testBit x = true))) → AW (GM l X (d + 1) M_X11_turn (fun r1 m' => r1 = none ∧ RTn m' (lim (if K = 3 then oT V K lt n xs ++ (oT V K lt n xs).take 1 else oT V K lt n xs)) ∧ FrT m m')) 76 [vR 12 243, vI (nI r), vI (nI P.length), vI (nI K), vI (nI i), vI (nI x), vU] [vI (if b then 1 else 0)] m1 := by
      intro b hb
      have hst : ∀ v : Nat, v = (if K = 2 ∨ (K = 4 ∧ V.testBit x = true) then (x + n) % 26 else x) → AW (GM l X (d + 1) M_X11_turn (fun r1 m' => r1 = none ∧ RTn m' (lim (if K = 3 then oT V K lt n xs ++ (oT V K lt n xs).take 1 else oT V K lt n xs)) ∧ FrT m m')) 105 [vR 12 243, vI (nI r), vI (nI P.length), vI (nI K), vI (nI i), vI (nI x), vI (if b then 1 else 0)] [vI (nI v), vI (nI P.length), vR 1090 263] m1 := by
        intro v hv9
        refine AW.c rfl (⟨vp_in_nI (by omega) (by decide), fun q => absurd q (by decide)⟩) ?_
        try dsimp only [List.set_cons_zero, List.set_cons_succ, Option.toList_some, Option.toList_none, List.cons_append, List.nil_append]
        rw [nI_clamp (by omega)]
        refine hD _ (hf.tr ⟨fun a _ _ h3 => mUp_a h3, fun k _ => mUp_n (Or.inl (by decide))⟩) (by rw [mUp_a (by decide)]; exact hz) (by rw [mUp_a (by decide)]; exact h262) v hv9 ?_ _
        rw [mUp_row]
        exact RLn_add hv
      repeat refine AW.s rfl ?_
      try dsimp only [List.set_cons_zero, List.set_cons_succ, Option.toList_some, Option.toList_none, List.cons_append, List.nil_append]
      by_cases q : b = true
      · rw [if_pos q]
        refine AW.b rfl (fun hc => ?_) (fun hc => ?_)
        · exact absurd hc (by decide)
        · repeat refine AW.s rfl ?_
          try dsimp only [List.set_cons_zero, List.set_cons_succ, Option.toList_some, Option.toList_none, List.cons_append, List.nil_append]
          refine AW.c rfl (vp_in_nI (by omega) (by decide)) ?_
          try dsimp only [List.set_cons_zero, List.set_cons_succ, Option.toList_some, Option.toList_none, List.cons_append, List.nil_append]
          rw [nI_clamp (by omega), show m1 (243 + 6) r = nI n by rw [hf.1 _ (by decide) (by decide) (by decide)]; exact q3]
          iterate 2 refine AW.s rfl ?_
          try dsimp only [List.set_cons_zero, List.set_cons_succ, Option.toList_some, Option.toList_none, List.cons_append, List.nil_append]
          refine AW.c rfl (by decide) ?_
          try dsimp only [List.set_cons_zero, List.set_cons_succ, Option.toList_some, Option.toList_none, List.cons_append, List.nil_append]
          rw [rem26 (by omega) (by omega)]
          refine AW.s rfl ?_
          try dsimp only [List.set_cons_zero, List.set_cons_succ, Option.toList_some, Option.toList_none, List.cons_append, List.nil_append]
          have h9 := hst ((x + n) % 26) (by rw [if_pos (hb.mp q)])
          rw [if_pos q] at h9
          exact h9
      · rw [if_neg q]
        refine AW.b rfl (fun hc => ?_) (fun hc => ?_)
        · refine AW.s rfl ?_
          try dsimp only [List.set_cons_zero, List.set_cons_succ, Option.toList_some, Option.toList_none, List.cons_append, List.nil_append]
          have h9 := hst x (by rw [if_neg (fun z => q (hb.mpr z))])
          rw [if_neg q] at h9
          exact h9
        · exact absurd rfl hc
    -- from the place where the letter is known
    have hA : AW (GM l X (d + 1) M_X11_turn (fun r1 m' => r1 = none ∧ RTn m' (lim (if K = 3 then oT V K lt n xs ++ (oT V K lt n xs).take 1 else oT V K lt n xs)) ∧ FrT m m')) 50 [vR 12 243, vI (nI r), vI (nI P.length), vI (nI K), vI (nI i), vU, vU] [vI (nI x)] m1 := by
      repeat refine AW.s rfl ?_
      try dsimp only [List.set_cons_zero, List.set_cons_succ, Option.toList_some, Option.toList_none, List.cons_append, List.nil_append]
      refine AW.b rfl (fun hc => ?_) (fun hc => ?_)
      · have e : K = 2 := (nI_eq (b := 2) (by omega) (by decide)).mp hc
        iterate 2 refine AW.s rfl ?_
        try dsimp only [List.set_cons_zero, List.set_cons_succ, Option.toList_some, Option.toList_none, List.cons_append, List.nil_append]
        exact hB true ⟨fun _ => Or.inl e, fun _ => rfl⟩
      · have e2 : ¬ K = 2 := fun q => hc (by rw [q]; rfl)
        repeat refine AW.s rfl ?_
        try dsimp only [List.set_cons_zero, List.set_cons_succ, Option.toList_some, Option.toList_none, List.cons_append, List.nil_append]
        refine AW.b rfl (fun hc => ?_) (fun hc => ?_)
        · have e : K = 4 := (nI_eq (b := 4) (by omega) (by decide)).mp hc
          repeat refine AW.s rfl ?_
          try dsimp only [List.set_cons_zero, List.set_cons_succ, Option.toList_some, Option.toList_none, List.cons_append, List.nil_append]
          refine AW.V k_11_211 ((c_MisVowel hV1 hV26 hx26)) rfl rfl rfl rfl rfl rfl (fun r1 m9 hq => ?_)
          obtain ⟨rfl, hm9⟩ := hq
          rw [hm9]
          try dsimp only [List.set_cons_zero, List.set_cons_succ, Option.toList_some, Option.toList_none, List.cons_append, List.nil_append]
          by_cases q : V.testBit x = true
          · rw [if_pos q]
            refine AW.b rfl (fun hc => ?_) (fun hc => ?_)
            · exact absurd hc (by decide)
            · iterate 2 refine AW.s rfl ?_
              try dsimp only [List.set_cons_zero, List.set_cons_succ, Option.toList_some, Option.toList_none, List.cons_append, List.nil_append]
              exact hB true ⟨fun _ => Or.inr ⟨e, q⟩, fun _ => rfl⟩
          · rw [if_neg q]
            refine AW.b rfl (fun hc => ?_) (fun hc => ?_)
            · refine AW.s rfl ?_
              try dsimp only [List.set_cons_zero, List.set_cons_succ, Option.toList_some, Option.toList_none, List.cons_append, List.nil_append]
              exact hB false ⟨fun z => (by cases z), fun z => z.elim (fun z => absurd z e2) (fun z => absurd z.2 q)⟩
            · exact absurd rfl hc
        · have e4 : ¬ K = 4 := fun q => hc (by rw [q]; rfl)
          refine AW.s rfl ?_
          try dsimp only [List.set_cons_zero, List.set_cons_succ, Option.toList_some, Option.toList_none, List.cons_append, List.nil_append]
          exact hB false ⟨fun z => (by cases z), fun z => z.elim (fun z => absurd z e2) (fun z => absurd z.1 e4)⟩
    repeat refine AW.s rfl ?_
    try dsimp only [List.set_cons_zero, List.set_cons_succ, Option.toList_some, Option.toList_none, List.cons_append, List.nil_append]
    refine AW.b rfl (fun hc => ?_) (fun hc => ?_)
    · have e : K = 5 := (nI_eq (b := 5) (by omega) (by decide)).mp hc
      repeat refine AW.s rfl ?_
      try dsimp only [List.set_cons_zero, List.set_cons_succ, Option.toList_some, Option.toList_none, List.cons_append, List.nil_append]
      rw [hz, show nI xs.length - 1 = nI (xs.length - 1) from pk_sub (b := 1) h1l, pk_sub (show i ≤ xs.length - 1 by omega)]
      refine AW.c rfl (vp_in_nI (by omega) (by decide)) ?_
      try dsimp only [List.set_cons_zero, List.set_cons_succ, Option.toList_some, Option.toList_none, List.cons_append, List.nil_append]
      have hx2 : xs[xs.length - 1 - i]? = some x := by
        unfold zT at hx
        rw [if_pos e, List.getElem?_reverse hlt] at hx
        exact hx
      rw [nI_clamp (by omega), show m1 (243 + 19) (xs.length - 1 - i) = nI x by rw [show m1 (243 + 19) = m 262 from h262]; exact hy.2 _ x hx2]
      refine AW.s rfl ?_
      try dsimp only [List.set_cons_zero, List.set_cons_succ, Option.toList_some, Option.toList_none, List.cons_append, List.nil_append]
      exact hA
    · have e : ¬ K = 5 := fun q => hc (by rw [q]; rfl)
      repeat refine AW.s rfl ?_
      try dsimp only [List.set_cons_zero, List.set_cons_succ, Option.toList_some, Option.toList_none, List.cons_append, List.nil_append]
      refine AW.c rfl (vp_in_nI (by omega) (by decide)) ?_
      try dsimp only [List.set_cons_zero, List.set_cons_succ, Option.toList_some, Option.toList_none, List.cons_append, List.nil_append]
      have hx2 : xs[i]? = some x := by
        unfold zT at hx
        rwa [if_neg e] at hx
      rw [nI_clamp (by omega), show m1 (243 + 19) i = nI x by rw [show m1 (243 + 19) = m 262 from h262]; exact hy.2 _ x hx2]
      exact hA
  · have : i = xs.length := by
      have : ¬ i < xs.length := fun q => hc ((nI_ltI (by omega) (by omega)).mpr q)
      omega
    subst this
    rw [List.take_of_length_le (by omega)] at hv
    have hOT : (zT K xs).flatMap (gT V K lt n) = oT V K lt n xs := rfl
    rw [show (zT K xs).take xs.length = zT K xs from List.take_of_length_le (by omega), hOT]
    rw [hOT] at hv
    have hol : (oT V K lt n xs).length ≤ 80 := by
      have := flat_len (V := V) (K := K) (lt := lt) (n := n) (zT K xs)
      rw [hOT] at this
      omega
    have hol1 : 1 ≤ (oT V K lt n xs).length := by
      have h9 : ∀ zs : List Nat, zs.length ≤ (zs.flatMap (gT V K lt n)).length := by
        intro zs; induction zs with
        | nil => simp
        | cons a r ih =>
          rw [List.flatMap_cons, List.length_append, List.length_cons]
          have : 1 ≤ (gT V K lt n a).length := by unfold gT; simp
          omega
      have := h9 (zT K xs)
      rw [hOT] at this
      omega
    have hend : ∀ (os : List Nat) (m2 : Mem), os.length ≤ 81 → FrT m m2 → RLn (m2 263) os → AW (GM l X (d + 1) M_X11_turn (fun r1 m' => r1 = none ∧ RTn m' (lim os) ∧ FrT m m')) 169 [vR 12 243, vI (nI r), vI (nI os.length), vI (nI K), vI (nI xs.length), vU, vU] [] m2 := by
      intro os m2 hos hf2 hv2
      have hcp : ∀ m3 : Mem, FrT m m3 → RLn (m3 263) os → os.length ≤ 40 → m3 243 36 = nI os.length → AW (GM l X (d + 1) M_X11_turn (fun r1 m' => r1 = none ∧ RTn m' (lim os) ∧ FrT m m')) 188 [vR 12 243, vI (nI r), vI (nI os.length), vI (nI K), vI (nI 0), vU, vU] [] m3 := by
        intro m3 hf3 hv3 h40o hz3
        refine AW.loop (pc := 188) (σ := Unit) os.length (fun i _ => [vR 12 243, vI (nI r), vI (nI os.length), vI (nI K), vI (nI i), vU, vU]) (fun i _ m4 => FrT m m4 ∧ m4 243 36 = nI os.length ∧ RLn (m4 263) os ∧ ∀ k x, k < i → os[k]? = some x → m4 262 k = nI x) (fun i _ m4 hi hm4 ih => ?_) 0 () m3 (Nat.zero_le _) ⟨hf3, hz3, hv3, fun k x hk => absurd hk (by omega)⟩
        obtain ⟨hf4, hz4, hv4, hw4⟩ := hm4
        repeat refine AW.s rfl ?_
        try dsimp only [List.set_cons_zero, List.set_cons_succ, Option.toList_some, Option.toList_none, List.cons_append, List.nil_append]
        rw [hz4]
        refine AW.b rfl (fun hc => ?_) (fun hc => ?_)
        · have hlt : i < os.length := (nI_ltI (by omega) (by omega)).mp hc
          obtain ⟨x, hx⟩ : ∃ x, os[i]? = some x := ⟨_, List.getElem?_eq_getElem hlt⟩
          repeat refine AW.s rfl ?_
          try dsimp only [List.set_cons_zero, List.set_cons_succ, Option.toList_some, Option.toList_none, List.cons_append, List.nil_append]
          refine AW.c rfl (vp_in_nI (by omega) (by decide)) ?_
          try dsimp only [List.set_cons_zero, List.set_cons_succ, Option.toList_some, Option.toList_none, List.cons_append, List.nil_append]
          rw [nI_clamp (by omega), show m4 (243 + 20) i = nI x from hv4 i x hx]
          refine AW.c rfl (⟨vp_in_nI (by omega) (by decide), fun q => absurd q (by decide)⟩) ?_
          try dsimp only [List.set_cons_zero, List.set_cons_succ, Option.toList_some, Option.toList_none, List.cons_append, List.nil_append]
          rw [nI_clamp (by omega)]
          repeat refine AW.u 188 rfl rfl ?_
          try dsimp only [List.set_cons_zero, List.set_cons_succ, Option.toList_some, Option.toList_none, List.cons_append, List.nil_append]
          rw [nI_1]
          refine ih () _ hlt ⟨hf4.tr ⟨fun a _ h2 _ => mUp_a h2, fun k _ => mUp_n (Or.inl (by decide))⟩, by rw [mUp_a (by decide)]; exact hz4, by rw [mUp_a (by decide)]; exact hv4, fun k y hk hky => ?_⟩
          by_cases e : k = i
          · subst e
            rw [hx] at hky
            cases hky
            exact mUp_s _ _ _ _
          · rw [mUp_n (Or.inr e)]; exact hw4 k y (by omega) hky
        · have : i = os.length := by
            have : ¬ i < os.length := fun q => hc ((nI_ltI (by omega) (by omega)).mpr q)
            omega
          subst this
          refine AW.rv rfl rfl ⟨rfl, ?_, hf4⟩
          unfold lim
          rw [if_pos h40o]
          exact ⟨hz4, fun k x hk => hw4 k x (List.getElem?_eq_some_iff.mp hk).1 hk⟩
      repeat refine AW.s rfl ?_
      try dsimp only [List.set_cons_zero, List.set_cons_succ, Option.toList_some, Option.toList_none, List.cons_append, List.nil_append]
      refine AW.b rfl (fun hc => ?_) (fun hc => ?_)
      · have hgt : 40 < os.length := (nI_ltI (a := 40) (by decide) (by omega)).mp hc
        repeat refine AW.u 188 rfl rfl ?_
        try dsimp only [List.set_cons_zero, List.set_cons_succ, Option.toList_some, Option.toList_none, List.cons_append, List.nil_append]
        repeat refine AW.s rfl ?_
        try dsimp only [List.set_cons_zero, List.set_cons_succ, Option.toList_some, Option.toList_none, List.cons_append, List.nil_append]
        rw [mUp_s]
        refine AW.b rfl (fun hc => ?_) (fun hc => ?_)
        · exact absurd hc (by decide)
        · refine AW.rv rfl rfl ⟨rfl, ?_, hf2.tr ⟨fun a h1 _ _ => mUp_a h1, fun k hk => mUp_n (Or.inr hk)⟩⟩
          unfold lim
          rw [if_neg (by omega)]
          exact mUp_s _ _ _ _
      · have hle : os.length ≤ 40 := by
          have : ¬ 40 < os.length := fun q => hc ((nI_ltI (a := 40) (by decide) (by omega)).mpr q)
          omega
        repeat refine AW.u 188 rfl rfl ?_
        try dsimp only [List.set_cons_zero, List.set_cons_succ, Option.toList_some, Option.toList_none, List.cons_append, List.nil_append]
        exact hcp _ (hf2.tr ⟨fun a h1 _ _ => mUp_a h1, fun k hk => mUp_n (Or.inr hk)⟩) (by rw [mUp_a (by decide)]; exact hv2) hle (mUp_s _ _ _ _)
    repeat refine AW.s rfl ?_
    try dsimp only [List.set_cons_zero, List.set_cons_succ, Option.toList_some, Option.toList_none, List.cons_append, List.nil_append]
    refine AW.b rfl (fun hc => ?_) (fun hc => ?_)
    · have e : K = 3 := (nI_eq (b := 3) (by omega) (by decide)).mp hc
      rw [if_pos e]
      obtain ⟨y0, hy0⟩ : ∃ y, (oT V K lt n xs)[0]? = some y := ⟨_, List.getElem?_eq_getElem (by omega)⟩
      have htk : (oT V K lt n xs).take 1 = [y0] := by
        cases hoo : oT V K lt n xs with
        | nil => rw [hoo] at hy0; cases hy0
        | cons a t => rw [hoo] at hy0; cases hy0; rfl
      repeat refine AW.s rfl ?_
      try dsimp only [List.set_cons_zero, List.set_cons_succ, Option.toList_some, Option.toList_none, List.cons_append, List.nil_append]
      refine AW.c rfl (vp_in_nI (n := 0) (by decide) (by decide)) ?_
      try dsimp only [List.set_cons_zero, List.set_cons_succ, Option.toList_some, Option.toList_none, List.cons_append, List.nil_append]
      rw [show (0 : Int32).toNatClampNeg = 0 from rfl, show m1 (243 + 20) 0 = nI y0 from hv 0 y0 hy0]
      refine AW.c rfl (⟨vp_in_nI (by omega) (by decide), fun q => absurd q (by decide)⟩) ?_
      try dsimp only [List.set_cons_zero, List.set_cons_succ, Option.toList_some, Option.toList_none, List.cons_append, List.nil_append]
      rw [nI_clamp (by omega)]
      refine AW.s rfl ?_
      try dsimp only [List.set_cons_zero, List.set_cons_succ, Option.toList_some, Option.toList_none, List.cons_append, List.nil_append]
      rw [nI_1, htk]
      refine AW.at (hend (oT V K lt n xs ++ [y0]) _ (by rw [List.length_append]; show _ + 1 ≤ 81; omega) (hf.tr ⟨fun a _ _ h3 => mUp_a h3, fun k _ => mUp_n (Or.inl (by decide))⟩) (by rw [mUp_row]; exact RLn_add hv)) rfl ?_ rfl rfl
      rw [List.length_append]
      rfl
    · have e : ¬ K = 3 := fun q => hc (by rw [q]; rfl)
      rw [if_neg e]
      exact hend _ m1 (by omega) hf hv
end
section
theorem sayR_none {σ : Sg} (rw : List Nat) : sayR σ rw none = none := by
  induction rw with
  | nil => rfl
  | cons a r ih => exact ih
theorem sayR_app {σ : Sg} (a b : List Nat) (o : Option (List Nat)) : sayR σ (a ++ b) o = sayR σ b (sayR σ a o) := by
  unfold sayR
  rw [List.foldl_append]
theorem rowL_get {σ : Sg} {i : Nat} (h : i < σ 0 3) : (rowL σ)[i]? = some (σ 6 i) := by simp [rowL, List.getElem?_range h]
theorem c_MturnByRow {l : Launch} {X : XT} {d : Nat} {m : Mem} {σ : Sg} {o : Option (List Nat)} (hd : 2 ≤ d) (hs : RepM m σ) (hσ : WF σ) (hy : RTn m o) (ho : WFo o) : Meth l X d M_X11_turnByRow [vR 12 243] m (fun r1 m' => r1 = none ∧ RTn m' (sayR σ (rowL σ) o) ∧ FrT m m') := by
  obtain ⟨d, rfl⟩ : ∃ e, d = e + 1 := ⟨d - 1, by omega⟩
  have h8 := hσ.2.2.2.1
  refine E_X11_turnByRow (ls := [vR 12 243, vU]) rfl rfl ?_
  repeat refine AW.u 2 rfl rfl ?_
  try dsimp only [List.set_cons_zero, List.set_cons_succ, Option.toList_some, Option.toList_none, List.cons_append, List.nil_append]
  refine AW.loop (pc := 2) (σ := Unit) (σ 0 3) (fun i _ => [vR 12 243, vI (nI i)]) (fun i _ m1 => FrT m m1 ∧ RTn m1 (sayR σ ((rowL σ).take i) o)) (fun i _ m1 hi hm1 ih => ?_) 0 () m (Nat.zero_le _) ⟨FrT.rf, hy⟩
  obtain ⟨hf, hv⟩ := hm1
  have hsz : m1 243 9 = nI (σ 0 3) := by rw [hf.2 9 (by decide)]; exact hs.2.2.2.1
  have hwfo : WFo (sayR σ ((rowL σ).take i) o) := sayR_wf hσ _ (fun q hq => (rowL_wf hσ).2 q (List.mem_of_mem_take hq)) ho
  repeat refine AW.s rfl ?_
  try dsimp only [List.set_cons_zero, List.set_cons_succ, Option.toList_some, Option.toList_none, List.cons_append, List.nil_append]
  rw [hsz]
  refine AW.b rfl (fun hc => ?_) (fun hc => ?_)
  · have hlt : i < σ 0 3 := (nI_ltI (by omega) (by omega)).mp hc
    have hr2 : σ 6 i < σ 0 2 := hσ.2.2.2.2.2.2.2 i hlt
    repeat refine AW.s rfl ?_
    try dsimp only [List.set_cons_zero, List.set_cons_succ, Option.toList_some, Option.toList_none, List.cons_append, List.nil_append]
    cases hoo : sayR σ ((rowL σ).take i) o with
    | none =>
      rw [hoo] at hv
      have hv : m1 243 36 = -3 := hv
      rw [hv]
      refine AW.b rfl (fun hc => ?_) (fun hc => ?_)
      · exact absurd hc (by decide)
      · have e : sayR σ (rowL σ) o = none := by
          rw [← List.take_append_drop i (rowL σ), sayR_app, hoo, sayR_none]
        refine AW.rv rfl rfl ⟨rfl, ?_, hf⟩
        rw [e]
        exact hv
    | some xs =>
      rw [hoo] at hv hwfo
      obtain ⟨g1, g2, g3⟩ := hwfo xs rfl
      rw [hv.1]
      refine AW.b rfl (fun hc => ?_) (fun hc => ?_)
      · repeat refine AW.s rfl ?_
        try dsimp only [List.set_cons_zero, List.set_cons_succ, Option.toList_some, Option.toList_none, List.cons_append, List.nil_append]
        refine AW.c rfl (vp_in_nI (by omega) (by decide)) ?_
        try dsimp only [List.set_cons_zero, List.set_cons_succ, Option.toList_some, Option.toList_none, List.cons_append, List.nil_append]
        rw [nI_clamp (by omega), show m1 (243 + 7) i = nI (σ 6 i) by rw [hf.1 _ (by decide) (by decide) (by decide)]; exact hs.2.2.2.2.2.2.2 i hlt]
        refine AW.V k_11_229 ((c_Mturn (by omega) (hs.T hf) hσ hr2 hv hwfo)) rfl rfl rfl rfl rfl rfl (fun r1 m2 hq => ?_)
        obtain ⟨rfl, p1, p2⟩ := hq
        repeat refine AW.u 2 rfl rfl ?_
        try dsimp only [List.set_cons_zero, List.set_cons_succ, Option.toList_some, Option.toList_none, List.cons_append, List.nil_append]
        rw [nI_1]
        refine ih () _ hlt ⟨hf.tr p2, ?_⟩
        rw [sayR_take (rowL_get hlt), hoo]
        exact p1
      · exact absurd (nI_lt (a := 0) (by omega) (by omega)) hc
  · have : i = σ 0 3 := by
      have : ¬ i < σ 0 3 := fun q => hc ((nI_ltI (by omega) (by omega)).mpr q)
      omega
    subst this
    rw [List.take_of_length_le (by rw [rowL_len]; exact Nat.le_refl _)] at hv
    exact AW.rv rfl rfl ⟨rfl, hv, hf⟩
/-- what a word is said as, as the model keeps it -/
def RMs (m : Mem) (w : Nat) (o : Option (List Nat)) : Prop := match o with
  | none => m 261 w = -3
  | some xs => m 261 w = nI xs.length ∧ ∀ k x, xs[k]? = some x → m 260 (40 * w + k) = nI x
theorem RMs.fr {m m' : Mem} {w : Nat} {o : Option (List Nat)} (h : RMs m w o) (ho : WFo o) (h1 : m' 261 w = m 261 w) (h2 : ∀ k, k < 40 → m' 260 (40 * w + k) = m 260 (40 * w + k)) : RMs m' w o := by
  cases o with
  | none => show m' 261 w = -3; rw [h1]; exact h
  | some xs =>
    obtain ⟨-, -, g3⟩ := ho xs rfl
    exact ⟨by rw [h1]; exact h.1, fun k x hk => by rw [h2 k (Nat.lt_of_lt_of_le (List.getElem?_eq_some_iff.mp hk).1 g3)]; exact h.2 k x hk⟩
theorem c_Msay {l : Launch} {X : XT} {d : Nat} {w : Nat} {m : Mem} {σ : Sg} (hd : 3 ≤ d) (hs : RepM m σ) (hσ : WF σ) (hw : w < σ 0 1) : Meth l X d M_X11_say [vR 12 243, vI (nI w)] m (fun r1 m' => r1 = none ∧ RMs m' w (saidS σ (rowL σ) w) ∧ FrS m m' ∧ ∀ v, v ≠ w → m' 261 v = m 261 v ∧ ∀ k, k < 40 → m' 260 (40 * v + k) = m 260 (40 * v + k)) := by
  obtain ⟨d, rfl⟩ : ∃ e, d = e + 1 := ⟨d - 1, by omega⟩
  have hw8 : w < 8 := Nat.lt_of_lt_of_le hw hσ.2.1
  refine E_X11_say (ls := [vR 12 243, vI (nI w), vU]) rfl rfl ?_
  repeat refine AW.s rfl ?_
  try dsimp only [List.set_cons_zero, List.set_cons_succ, Option.toList_some, Option.toList_none, List.cons_append, List.nil_append]
  refine AW.V k_11_232 ((c_Mbegin hs hσ hw)) rfl rfl rfl rfl rfl rfl (fun r1 m1 hq => ?_)
  obtain ⟨rfl, p1, p2⟩ := hq
  repeat refine AW.s rfl ?_
  try dsimp only [List.set_cons_zero, List.set_cons_succ, Option.toList_some, Option.toList_none, List.cons_append, List.nil_append]
  refine AW.V k_11_235 ((c_MturnByRow (by omega) (hs.T p2) hσ p1 (wl_wf hσ hw))) rfl rfl rfl rfl rfl rfl (fun r1 m2 hq => ?_)
  obtain ⟨rfl, p3, p4⟩ := hq
  have p5 := p2.tr p4
  have hwo : WFo (saidS σ (rowL σ) w) := sayR_wf hσ _ (rowL_wf hσ).2 (wl_wf hσ hw)
  have e0 : sayR σ (rowL σ) (some (wl σ w)) = saidS σ (rowL σ) w := rfl
  rw [e0] at p3
  generalize saidS σ (rowL σ) w = o at *
  repeat refine AW.s rfl ?_
  try dsimp only [List.set_cons_zero, List.set_cons_succ, Option.toList_some, Option.toList_none, List.cons_append, List.nil_append]
  refine AW.c rfl (⟨vp_in_nI (by omega) (by decide), fun q => absurd q (by decide)⟩) ?_
  try dsimp only [List.set_cons_zero, List.set_cons_succ, Option.toList_some, Option.toList_none, List.cons_append, List.nil_append]
  rw [nI_clamp (by omega)]
  repeat refine AW.u 21 rfl rfl ?_
  try dsimp only [List.set_cons_zero, List.set_cons_succ, Option.toList_some, Option.toList_none, List.cons_append, List.nil_append]
  have hfr0 : ∀ x : Int32, FrS m (mUp m2 261 w x) := fun x => p5.S.tr ⟨fun a _ _ h3 _ _ => mUp_a h3, fun k _ => mUp_n (Or.inl (by decide))⟩
  cases o with
  | none =>
    have p3 : m2 243 36 = -3 := p3
    repeat refine AW.s rfl ?_
    try dsimp only [List.set_cons_zero, List.set_cons_succ, Option.toList_some, Option.toList_none, List.cons_append, List.nil_append]
    rw [mUp_a (show (243 : Nat) ≠ 261 by decide), p3]
    refine AW.b rfl (fun hc => ?_) (fun hc => ?_)
    · exact absurd hc (by decide)
    · refine AW.rv rfl rfl ⟨rfl, mUp_s _ _ _ _, hfr0 _, fun v hv => ⟨?_, fun k hk => ?_⟩⟩
      · rw [mUp_n (Or.inr hv), p5.1 261 (by decide) (by decide) (by decide)]
      · rw [mUp_a (by decide), p5.1 260 (by decide) (by decide) (by decide)]
  | some xs =>
    obtain ⟨g1, g2, g3⟩ := hwo xs rfl
    rw [p3.1]
    refine AW.loop (pc := 21) (σ := Unit) xs.length (fun i _ => [vR 12 243, vI (nI w), vI (nI i)]) (fun i _ m3 => FrS m m3 ∧ m3 243 36 = nI xs.length ∧ m3 262 = m2 262 ∧ m3 261 w = nI xs.length ∧ (∀ v, v ≠ w → m3 261 v = m 261 v ∧ ∀ k, k < 40 → m3 260 (40 * v + k) = m 260 (40 * v + k)) ∧ ∀ k x, k < i → xs[k]? = some x → m3 260 (40 * w + k) = nI x) (fun i _ m3 hi hm3 ih => ?_) 0 () _ (Nat.zero_le _) ⟨hfr0 _, by rw [mUp_a (by decide)]; exact p3.1, mUp_a (by decide), mUp_s _ _ _ _, fun v hv => ⟨by rw [mUp_n (Or.inr hv), p5.1 261 (by decide) (by decide) (by decide)], fun k _ => by rw [mUp_a (by decide), p5.1 260 (by decide) (by decide) (by decide)]⟩, fun k x hk => absurd hk (by omega)⟩
    obtain ⟨hf3, hz3, h262, hl3, hoth, hw3⟩ := hm3
    repeat refine AW.s rfl ?_
    try dsimp only [List.set_cons_zero, List.set_cons_succ, Option.toList_some, Option.toList_none, List.cons_append, List.nil_append]
    rw [hz3]
    refine AW.b rfl (fun hc => ?_) (fun hc => ?_)
    · have hlt : i < xs.length := (nI_ltI (by omega) (by omega)).mp hc
      obtain ⟨x, hx⟩ : ∃ x, xs[i]? = some x := ⟨_, List.getElem?_eq_getElem hlt⟩
      repeat refine AW.s rfl ?_
      try dsimp only [List.set_cons_zero, List.set_cons_succ, Option.toList_some, Option.toList_none, List.cons_append, List.nil_append]
      rw [show (40 : Int32) * nI w = nI (40 * w) from pk_mul 40 w, nI_add]
      repeat refine AW.s rfl ?_
      try dsimp only [List.set_cons_zero, List.set_cons_succ, Option.toList_some, Option.toList_none, List.cons_append, List.nil_append]
      refine AW.c rfl (vp_in_nI (by omega) (by decide)) ?_
      try dsimp only [List.set_cons_zero, List.set_cons_succ, Option.toList_some, Option.toList_none, List.cons_append, List.nil_append]
      rw [nI_clamp (by omega), show m3 (243 + 19) i = nI x by rw [show m3 (243 + 19) = m2 262 from h262]; exact p3.2 i x hx]
      refine AW.c rfl (⟨vp_in_nI (by omega) (by decide), fun q => absurd q (by decide)⟩) ?_
      try dsimp only [List.set_cons_zero, List.set_cons_succ, Option.toList_some, Option.toList_none, List.cons_append, List.nil_append]
      rw [nI_clamp (by omega)]
      repeat refine AW.u 21 rfl rfl ?_
      try dsimp only [List.set_cons_zero, List.set_cons_succ, Option.toList_some, Option.toList_none, List.cons_append, List.nil_append]
      rw [nI_1]
      refine ih () _ hlt ⟨hf3.tr ⟨fun a _ h2 _ _ _ => mUp_a h2, fun k _ => mUp_n (Or.inl (by decide))⟩, by rw [mUp_a (by decide)]; exact hz3, by rw [mUp_a (by decide)]; exact h262, by rw [mUp_a (by decide)]; exact hl3, fun v hv => ⟨by rw [mUp_a (by decide)]; exact (hoth v hv).1, fun k hk => ?_⟩, fun k y hk hky => ?_⟩
      · rw [mUp_n (Or.inr (by omega))]; exact (hoth v hv).2 k hk
      · by_cases e : k = i
        · subst e
          rw [hx] at hky
          cases hky
          exact mUp_s _ _ _ _
        · rw [mUp_n (Or.inr (by omega))]; exact hw3 k y (by omega) hky
    · have : i = xs.length := by
        have : ¬ i < xs.length := fun q => hc ((nI_ltI (by omega) (by omega)).mpr q)
        omega
      subst this
      refine AW.rv rfl rfl ⟨rfl, ⟨hl3, fun k x hk => hw3 k x (List.getElem?_eq_some_iff.mp hk).1 hk⟩, hf3, hoth⟩
theorem saidS_wf {σ : Sg} (hσ : WF σ) {rw : List Nat} (hr : WFr σ rw) {w : Nat} (hw : w < σ 0 1) : WFo (saidS σ rw w) := sayR_wf hσ _ hr.2 (wl_wf hσ hw)
theorem c_MsayAll {l : Launch} {X : XT} {d : Nat} {m : Mem} {σ : Sg} (hd : 4 ≤ d) (hs : RepM m σ) (hσ : WF σ) : Meth l X d M_X11_sayAll [vR 12 243] m (fun r1 m' => r1 = none ∧ (∀ w, w < σ 0 1 → RMs m' w (saidS σ (rowL σ) w)) ∧ FrS m m') := by
  obtain ⟨d, rfl⟩ : ∃ e, d = e + 1 := ⟨d - 1, by omega⟩
  have h8 := hσ.2.1
  refine E_X11_sayAll (ls := [vR 12 243, vU]) rfl rfl ?_
  repeat refine AW.u 2 rfl rfl ?_
  try dsimp only [List.set_cons_zero, List.set_cons_succ, Option.toList_some, Option.toList_none, List.cons_append, List.nil_append]
  refine AW.loop (pc := 2) (σ := Unit) (σ 0 1) (fun i _ => [vR 12 243, vI (nI i)]) (fun i _ m1 => FrS m m1 ∧ ∀ w, w < i → RMs m1 w (saidS σ (rowL σ) w)) (fun i _ m1 hi hm1 ih => ?_) 0 () m (Nat.zero_le _) ⟨FrS.rf, fun w hw => absurd hw (by omega)⟩
  obtain ⟨hf, hv⟩ := hm1
  have hsz : m1 243 1 = nI (σ 0 1) := by rw [hf.2 1 (by decide)]; exact hs.2.1
  repeat refine AW.s rfl ?_
  try dsimp only [List.set_cons_zero, List.set_cons_succ, Option.toList_some, Option.toList_none, List.cons_append, List.nil_append]
  rw [hsz]
  refine AW.b rfl (fun hc => ?_) (fun hc => ?_)
  · have hlt : i < σ 0 1 := (nI_ltI (by omega) (by omega)).mp hc
    repeat refine AW.s rfl ?_
    try dsimp only [List.set_cons_zero, List.set_cons_succ, Option.toList_some, Option.toList_none, List.cons_append, List.nil_append]
    refine AW.V k_11_238 ((c_Msay (by omega) (hs.S hf) hσ hlt)) rfl rfl rfl rfl rfl rfl (fun r1 m2 hq => ?_)
    obtain ⟨rfl, p1, p2, p3⟩ := hq
    repeat refine AW.u 2 rfl rfl ?_
    try dsimp only [List.set_cons_zero, List.set_cons_succ, Option.toList_some, Option.toList_none, List.cons_append, List.nil_append]
    rw [nI_1]
    refine ih () _ hlt ⟨hf.tr p2, fun w hw => ?_⟩
    by_cases e : w = i
    · subst e; exact p1
    · exact (hv w (by omega)).fr (saidS_wf hσ (rowL_wf hσ) (by omega)) (p3 w e).1 (p3 w e).2
  · have : i = σ 0 1 := by
      have : ¬ i < σ 0 1 := fun q => hc ((nI_ltI (by omega) (by omega)).mpr q)
      omega
    subst this
    exact AW.rv rfl rfl ⟨rfl, hv, hf⟩
end
section
theorem c_MisAlike {l : Launch} {X : XT} {d : Nat} {v w : Nat} {m : Mem} {o1 o2 : Option (List Nat)} (hv : v < 8) (hw : w < 8) (h1 : RMs m v o1) (w1 : WFo o1) (h2 : RMs m w o2) (w2 : WFo o2) : Meth l X d M_X11_isAlike [vR 12 243, vI (nI v), vI (nI w)] m (fun r m' => r = some (vI (if likeO o1 o2 then 1 else 0)) ∧ m' = m) := by
  refine E_X11_isAlike (ls := [vR 12 243, vI (nI v), vI (nI w), vU, vU]) rfl rfl ?_
  have hex : ∀ k : Nat, k < 2 ^ 31 → likeO o1 o2 = false → AW (GM l X d M_X11_isAlike (fun r m' => r = some (vI (if likeO o1 o2 then 1 else 0)) ∧ m' = m)) 33 [vR 12 243, vI (nI v), vI (nI w), vI 0, vI (nI k)] [] m := by
    intro k hk hno
    repeat refine AW.s rfl ?_
    try dsimp only [List.set_cons_zero, List.set_cons_succ, Option.toList_some, Option.toList_none, List.cons_append, List.nil_append]
    refine AW.c rfl (vp_in_nI (by omega) (by decide)) ?_
    try dsimp only [List.set_cons_zero, List.set_cons_succ, Option.toList_some, Option.toList_none, List.cons_append, List.nil_append]
    rw [nI_clamp (by omega)]
    refine AW.b rfl (fun hc => ?_) (fun hc => ?_)
    · repeat refine AW.s rfl ?_
      try dsimp only [List.set_cons_zero, List.set_cons_succ, Option.toList_some, Option.toList_none, List.cons_append, List.nil_append]
      refine AW.b rfl (fun hc => ?_) (fun hc => ?_)
      · repeat refine AW.s rfl ?_
        try dsimp only [List.set_cons_zero, List.set_cons_succ, Option.toList_some, Option.toList_none, List.cons_append, List.nil_append]
        exact AW.ri rfl rfl rfl ⟨by rw [hno]; rfl, rfl⟩
      · exact absurd rfl hc
    · repeat refine AW.s rfl ?_
      try dsimp only [List.set_cons_zero, List.set_cons_succ, Option.toList_some, Option.toList_none, List.cons_append, List.nil_append]
      exact AW.ri rfl rfl rfl ⟨by rw [hno]; rfl, rfl⟩
  repeat refine AW.s rfl ?_
  try dsimp only [List.set_cons_zero, List.set_cons_succ, Option.toList_some, Option.toList_none, List.cons_append, List.nil_append]
  refine AW.c rfl (vp_in_nI (by omega) (by decide)) ?_
  try dsimp only [List.set_cons_zero, List.set_cons_succ, Option.toList_some, Option.toList_none, List.cons_append, List.nil_append]
  rw [nI_clamp (by omega)]
  repeat refine AW.s rfl ?_
  try dsimp only [List.set_cons_zero, List.set_cons_succ, Option.toList_some, Option.toList_none, List.cons_append, List.nil_append]
  refine AW.c rfl (vp_in_nI (by omega) (by decide)) ?_
  try dsimp only [List.set_cons_zero, List.set_cons_succ, Option.toList_some, Option.toList_none, List.cons_append, List.nil_append]
  rw [nI_clamp (by omega)]
  cases o1 with
  | none =>
    have h1 : m 261 v = -3 := h1
    have hno : likeO none o2 = false := rfl
    rw [show m (243 + 18) v = -3 from h1]
    refine AW.b rfl (fun hc => ?_) (fun hc => ?_)
    · repeat refine AW.s rfl ?_
      try dsimp only [List.set_cons_zero, List.set_cons_succ, Option.toList_some, Option.toList_none, List.cons_append, List.nil_append]
      refine AW.c rfl (vp_in_nI (by omega) (by decide)) ?_
      try dsimp only [List.set_cons_zero, List.set_cons_succ, Option.toList_some, Option.toList_none, List.cons_append, List.nil_append]
      rw [nI_clamp (by omega), show m (243 + 18) v = -3 from h1]
      refine AW.b rfl (fun hc => ?_) (fun hc => ?_)
      · exact absurd hc (by decide)
      · repeat refine AW.u 33 rfl rfl ?_
        try dsimp only [List.set_cons_zero, List.set_cons_succ, Option.toList_some, Option.toList_none, List.cons_append, List.nil_append]
        exact hex 0 (by decide) hno
    · repeat refine AW.u 33 rfl rfl ?_
      try dsimp only [List.set_cons_zero, List.set_cons_succ, Option.toList_some, Option.toList_none, List.cons_append, List.nil_append]
      exact hex 0 (by decide) hno
  | some xs =>
    obtain ⟨a1, a2, a3⟩ := w1 xs rfl
    have h1l : m (243 + 18) v = nI xs.length := h1.1
    rw [h1l]
    cases o2 with
    | none =>
      have h2 : m 261 w = -3 := h2
      rw [show m (243 + 18) w = -3 from h2]
      refine AW.b rfl (fun hc => ?_) (fun hc => ?_)
      · have h9 := congrArg Int32.toInt hc
        rw [nI_toInt (by omega)] at h9
        have : (-3 : Int32).toInt = -3 := rfl
        omega
      · repeat refine AW.u 33 rfl rfl ?_
        try dsimp only [List.set_cons_zero, List.set_cons_succ, Option.toList_some, Option.toList_none, List.cons_append, List.nil_append]
        exact hex 0 (by decide) rfl
    | some ys =>
      obtain ⟨b1, b2, b3⟩ := w2 ys rfl
      have h2l : m (243 + 18) w = nI ys.length := h2.1
      rw [h2l]
      refine AW.b rfl (fun hc => ?_) (fun hc => ?_)
      · have hlen : xs.length = ys.length := (nI_eq (by omega) (by omega)).mp hc
        repeat refine AW.s rfl ?_
        try dsimp only [List.set_cons_zero, List.set_cons_succ, Option.toList_some, Option.toList_none, List.cons_append, List.nil_append]
        refine AW.c rfl (vp_in_nI (by omega) (by decide)) ?_
        try dsimp only [List.set_cons_zero, List.set_cons_succ, Option.toList_some, Option.toList_none, List.cons_append, List.nil_append]
        rw [nI_clamp (by omega), h1l]
        refine AW.b rfl (fun hc => ?_) (fun hc => ?_)
        · repeat refine AW.u 33 rfl rfl ?_
          try dsimp only [List.set_cons_zero, List.set_cons_succ, Option.toList_some, Option.toList_none, List.cons_append, List.nil_append]
          refine AW.loop (pc := 33) (σ := Unit) xs.length (fun i _ => [vR 12 243, vI (nI v), vI (nI w), vI 1, vI (nI i)]) (fun i _ m1 => m1 = m ∧ xs.take i = ys.take i) (fun i _ m1 hi hm1 ih => ?_) 0 () m (Nat.zero_le _) ⟨rfl, rfl⟩
          obtain ⟨rfl, htk⟩ := hm1
          repeat refine AW.s rfl ?_
          try dsimp only [List.set_cons_zero, List.set_cons_succ, Option.toList_some, Option.toList_none, List.cons_append, List.nil_append]
          refine AW.c rfl (vp_in_nI (by omega) (by decide)) ?_
          try dsimp only [List.set_cons_zero, List.set_cons_succ, Option.toList_some, Option.toList_none, List.cons_append, List.nil_append]
          rw [nI_clamp (by omega), h1l]
          refine AW.b rfl (fun hc => ?_) (fun hc => ?_)
          · have hlt : i < xs.length := (nI_ltI (by omega) (by omega)).mp hc
            obtain ⟨x, hx⟩ : ∃ x, xs[i]? = some x := ⟨_, List.getElem?_eq_getElem hlt⟩
            obtain ⟨y, hy⟩ : ∃ y, ys[i]? = some y := ⟨_, List.getElem?_eq_getElem (by omega)⟩
            have x26 := a1 x (List.mem_of_getElem? hx)
            have y26 := b1 y (List.mem_of_getElem? hy)
            repeat refine AW.s rfl ?_
            try dsimp only [List.set_cons_zero, List.set_cons_succ, Option.toList_some, Option.toList_none, List.cons_append, List.nil_append]
            refine AW.b rfl (fun hc => ?_) (fun hc => ?_)
            · exact absurd hc (by decide)
            · repeat refine AW.s rfl ?_
              try dsimp only [List.set_cons_zero, List.set_cons_succ, Option.toList_some, Option.toList_none, List.cons_append, List.nil_append]
              rw [show (40 : Int32) * nI v = nI (40 * v) from pk_mul 40 v, nI_add]
              refine AW.c rfl (vp_in_nI (by omega) (by decide)) ?_
              try dsimp only [List.set_cons_zero, List.set_cons_succ, Option.toList_some, Option.toList_none, List.cons_append, List.nil_append]
              rw [nI_clamp (by omega), show m1 (243 + 17) (40 * v + i) = nI x from h1.2 i x hx]
              repeat refine AW.s rfl ?_
              try dsimp only [List.set_cons_zero, List.set_cons_succ, Option.toList_some, Option.toList_none, List.cons_append, List.nil_append]
              rw [show (40 : Int32) * nI w = nI (40 * w) from pk_mul 40 w, nI_add]
              refine AW.c rfl (vp_in_nI (by omega) (by decide)) ?_
              try dsimp only [List.set_cons_zero, List.set_cons_succ, Option.toList_some, Option.toList_none, List.cons_append, List.nil_append]
              rw [nI_clamp (by omega), show m1 (243 + 17) (40 * w + i) = nI y from h2.2 i y hy]
              refine AW.b rfl (fun hc => ?_) (fun hc => ?_)
              · have exy : x = y := (nI_eq (by omega) (by omega)).mp hc
                repeat refine AW.u 33 rfl rfl ?_
                try dsimp only [List.set_cons_zero, List.set_cons_succ, Option.toList_some, Option.toList_none, List.cons_append, List.nil_append]
                rw [nI_1]
                exact ih () _ hlt ⟨rfl, take_same hx hy exy htk⟩
              · have hne := hc
                repeat refine AW.u 33 rfl rfl ?_
                try dsimp only [List.set_cons_zero, List.set_cons_succ, Option.toList_some, Option.toList_none, List.cons_append, List.nil_append]
                rw [nI_1]
                refine hex (i + 1) (by omega) ?_
                unfold likeO
                simp only [Option.isSome_some, Bool.true_and, decide_eq_false_iff_not]
                intro e
                cases e
                rw [hx] at hy
                cases hy
                exact hne rfl
          · have : i = xs.length := by
              have : ¬ i < xs.length := fun q => hc ((nI_ltI (by omega) (by omega)).mpr q)
              omega
            subst this
            repeat refine AW.s rfl ?_
            try dsimp only [List.set_cons_zero, List.set_cons_succ, Option.toList_some, Option.toList_none, List.cons_append, List.nil_append]
            refine AW.ri rfl rfl rfl ⟨?_, rfl⟩
            rw [List.take_length, hlen, List.take_length] at htk
            subst htk
            simp [likeO]
        · exact absurd (nI_lt (a := 0) (by omega) (by omega)) hc
      · have hne := hc
        repeat refine AW.u 33 rfl rfl ?_
        try dsimp only [List.set_cons_zero, List.set_cons_succ, Option.toList_some, Option.toList_none, List.cons_append, List.nil_append]
        refine hex 0 (by decide) ?_
        unfold likeO
        simp only [Option.isSome_some, Bool.true_and, decide_eq_false_iff_not]
        intro e
        cases e
        exact hne rfl
/-- bits of words below i, and of word i by those below j -/
def mpP (n : Nat) (f : Nat → Option (List Nat)) (i j b : Nat) : Prop := ∃ q, q < n ∧ q ≠ b ∧ (b < i ∨ (b = i ∧ q < j)) ∧ likeO (f b) (f q) = true
theorem c_Malike {l : Launch} {X : XT} {d : Nat} {n : Nat} {m : Mem} {f : Nat → Option (List Nat)} (hd : 1 ≤ d) (hn : n ≤ 8) (hW : m 243 1 = nI n) (hK : ∀ w, w < n → RMs m w (f w)) (hfw : ∀ w, w < n → WFo (f w)) : Meth l X d M_X11_alike [vR 12 243] m (fun r1 m' => ∃ x, r1 = some (vI x) ∧ isBits x (alikeP n f) ∧ m' = m) := by
  obtain ⟨d, rfl⟩ : ∃ e, d = e + 1 := ⟨d - 1, by omega⟩
  refine E_X11_alike (ls := [vR 12 243, vU, vU, vU]) rfl rfl ?_
  repeat refine AW.u 4 rfl rfl ?_
  try dsimp only [List.set_cons_zero, List.set_cons_succ, Option.toList_some, Option.toList_none, List.cons_append, List.nil_append]
  refine AW.loop (pc := 4) (σ := Int32) n (fun i x => [vR 12 243, vI x, vI (nI i), vU]) (fun i x m1 => m1 = m ∧ isBits x (mpP n f i 0)) (fun i x m1 hi hm1 ih => ?_) 0 0 m (Nat.zero_le _) ⟨rfl, isBits.zero.to (fun b => ⟨fun q => absurd q id, fun ⟨q, _, _, h, _⟩ => by omega⟩)⟩
  obtain ⟨rfl, hb⟩ := hm1
  repeat refine AW.s rfl ?_
  try dsimp only [List.set_cons_zero, List.set_cons_succ, Option.toList_some, Option.toList_none, List.cons_append, List.nil_append]
  rw [hW]
  refine AW.b rfl (fun hc => ?_) (fun hc => ?_)
  · have hlt : i < n := (nI_ltI (by omega) (by omega)).mp hc
    repeat refine AW.u 14 rfl rfl ?_
    try dsimp only [List.set_cons_zero, List.set_cons_succ, Option.toList_some, Option.toList_none, List.cons_append, List.nil_append]
    refine AW.loop (pc := 14) (σ := Int32) n (fun j x => [vR 12 243, vI x, vI (nI i), vI (nI j)]) (fun j x m2 => m2 = m1 ∧ isBits x (mpP n f i j)) (fun j x m2 hj hm2 ih2 => ?_) 0 x m1 (Nat.zero_le _) ⟨rfl, hb⟩
    obtain ⟨rfl, hb2⟩ := hm2
    repeat refine AW.s rfl ?_
    try dsimp only [List.set_cons_zero, List.set_cons_succ, Option.toList_some, Option.toList_none, List.cons_append, List.nil_append]
    rw [hW]
    refine AW.b rfl (fun hc => ?_) (fun hc => ?_)
    · have hlt2 : j < n := (nI_ltI (by omega) (by omega)).mp hc
      have hskip : (i = j ∨ likeO (f i) (f j) = false) → AW (GM l X (d + 1) M_X11_alike (fun r1 m' => ∃ x, r1 = some (vI x) ∧ isBits x (alikeP n f) ∧ m' = m2)) 43 [vR 12 243, vI x, vI (nI i), vI (nI j)] [vI x] m2 := by
        intro hno
        repeat refine AW.u 14 rfl rfl ?_
        try dsimp only [List.set_cons_zero, List.set_cons_succ, Option.toList_some, Option.toList_none, List.cons_append, List.nil_append]
        rw [nI_1]
        have hx0 : x ||| 0 = x := by simp
        rw [hx0]
        refine ih2 _ _ hlt2 ⟨rfl, hb2.to (fun b => ⟨fun ⟨q, h1, h2, h3, h4⟩ => ⟨q, h1, h2, by omega, h4⟩, fun ⟨q, h1, h2, h3, h4⟩ => ?_⟩)⟩
        by_cases e : b = i ∧ q = j
        · obtain ⟨rfl, rfl⟩ := e
          rcases hno with q0 | q0
          · exact absurd q0.symm h2
          · rw [q0] at h4; cases h4
        · exact ⟨q, h1, h2, by omega, h4⟩
      repeat refine AW.s rfl ?_
      try dsimp only [List.set_cons_zero, List.set_cons_succ, Option.toList_some, Option.toList_none, List.cons_append, List.nil_append]
      refine AW.b rfl (fun hc => ?_) (fun hc => ?_)
      · have e : i = j := (nI_eq (by omega) (by omega)).mp hc
        exact hskip (Or.inl e)
      · have e : ¬ i = j := fun q => hc (by rw [q])
        repeat refine AW.s rfl ?_
        try dsimp only [List.set_cons_zero, List.set_cons_succ, Option.toList_some, Option.toList_none, List.cons_append, List.nil_append]
        refine AW.V k_11_245 ((c_MisAlike (show i < 8 by omega) (show j < 8 by omega) (hK i hlt) (hfw i hlt) (hK j hlt2) (hfw j hlt2))) rfl rfl rfl rfl rfl rfl (fun r1 m9 hq => ?_)
        obtain ⟨rfl, hm9⟩ := hq
        rw [hm9]
        try dsimp only [List.set_cons_zero, List.set_cons_succ, Option.toList_some, Option.toList_none, List.cons_append, List.nil_append]
        by_cases hl : likeO (f i) (f j) = true
        · rw [if_pos hl]
          refine AW.b rfl (fun hc => ?_) (fun hc => ?_)
          · exact absurd hc (by decide)
          · repeat refine AW.u 14 rfl rfl ?_
            try dsimp only [List.set_cons_zero, List.set_cons_succ, Option.toList_some, Option.toList_none, List.cons_append, List.nil_append]
            rw [nI_1]
            refine ih2 _ _ hlt2 ⟨rfl, (hb2.or (k := i) (by omega)).to (fun b => ⟨fun q => ?_, fun ⟨q, h1, h2, h3, h4⟩ => ?_⟩)⟩
            · rcases q with ⟨q, h1, h2, h3, h4⟩ | rfl
              · exact ⟨q, h1, h2, by omega, h4⟩
              · exact ⟨j, hlt2, fun z => e z.symm, by omega, hl⟩
            · by_cases e2 : b = i
              · exact Or.inr e2
              · exact Or.inl ⟨q, h1, h2, by omega, h4⟩
        · have hl2 : likeO (f i) (f j) = false := by simpa using hl
          rw [if_neg hl]
          refine AW.b rfl (fun hc => ?_) (fun hc => ?_)
          · exact hskip (Or.inr hl2)
          · exact absurd rfl hc
    · have : j = n := by
        have : ¬ j < n := fun q => hc ((nI_ltI (by omega) (by omega)).mpr q)
        omega
      subst this
      repeat refine AW.u 4 rfl rfl ?_
      try dsimp only [List.set_cons_zero, List.set_cons_succ, Option.toList_some, Option.toList_none, List.cons_append, List.nil_append]
      refine AW.fg 3 ?_
      try dsimp only [List.set_cons_zero, List.set_cons_succ, Option.toList_some, Option.toList_none, List.cons_append, List.nil_append]
      rw [nI_1]
      refine ih _ _ hlt ⟨rfl, hb2.to (fun b => ⟨fun ⟨q, h1, h2, h3, h4⟩ => ⟨q, h1, h2, by omega, h4⟩, fun ⟨q, h1, h2, h3, h4⟩ => ⟨q, h1, h2, by omega, h4⟩⟩)⟩
  · have : i = n := by
      have : ¬ i < n := fun q => hc ((nI_ltI (by omega) (by omega)).mpr q)
      omega
    subst this
    repeat refine AW.s rfl ?_
    try dsimp only [List.set_cons_zero, List.set_cons_succ, Option.toList_some, Option.toList_none, List.cons_append, List.nil_append]
    refine AW.ri rfl rfl rfl ⟨_, rfl, hb.to (fun b => ⟨fun ⟨q, h1, h2, h3, h4⟩ => ⟨by omega, q, h1, h2, h4⟩, fun ⟨h1, j, h2, h3, h4⟩ => ⟨j, h2, h3, Or.inl h1, h4⟩⟩), rfl⟩
end
section
def dnV (c a b : Int32) : Int32 := if c = 15 then a + b else if c = 16 then a - b else if c = 17 then a * b else if c = 13 then (if a < b then 1 else 0) else if c = 14 then (if a = b then 1 else 0) else if c = 11 then (if a = 0 then 0 else if b = 0 then 0 else 1) else (if a = 0 then (if b = 0 then 0 else 1) else 1)
def stp (F : Nat → Int32) (c : Int32) (s : List Int32) : Option (List Int32) :=
  if c < 0 then some ((-1 - c) :: s)
  else if c < 6 then some (F c.toNatClampNeg :: s)
  else if c = 12 then (match s with
    | x :: r => some ((if x = 0 then 1 else 0) :: r)
    | [] => none)
  else if c = 18 then (match s with
    | x :: r => some (-x :: r)
    | [] => none)
  else match s with
    | y :: x :: r => some (dnV c x y :: r)
    | _ => none
def rnC (F : Nat → Int32) (cs : List Int32) (s : Option (List Int32)) : Option (List Int32) := cs.foldl (fun s c => s.bind (stp F c)) s
def okC (c : Int32) : Prop := c < 0 ∨ ∃ o, c = nI o ∧ (o < 6 ∨ (10 ≤ o ∧ o ≤ 18))
/-- a row of codes that leaves one number -/
def MOK (m : Mem) (q : Nat) (cs : List Int32) : Prop := m 253 q = nI cs.length ∧ cs.length ≤ 160 ∧ (∀ k c, cs[k]? = some c → m 252 (160 * q + k) = c ∧ okC c) ∧ ∀ F, ∃ v, rnC F cs (some []) = some [v]
def mvl (F : Nat → Int32) (cs : List Int32) : Int32 := ((rnC F cs (some [])).getD []).headD 0
theorem rnC_none {F : Nat → Int32} (cs : List Int32) : rnC F cs none = none := by
  induction cs with
  | nil => rfl
  | cons a r ih => exact ih
theorem rnC_app {F : Nat → Int32} (a b : List Int32) (s : Option (List Int32)) : rnC F (a ++ b) s = rnC F b (rnC F a s) := by
  unfold rnC
  rw [List.foldl_append]
theorem rnC_take {F : Nat → Int32} {cs : List Int32} {s : Option (List Int32)} {v : List Int32} (h : rnC F cs s = some v) (i : Nat) : ∃ t, rnC F (cs.take i) s = some t := by
  rw [← List.take_append_drop i cs, rnC_app] at h
  cases ht : rnC F (cs.take i) s with
  | none => rw [ht, rnC_none] at h; cases h
  | some t => exact ⟨t, rfl⟩
theorem rnC_step {F : Nat → Int32} {cs : List Int32} {s : Option (List Int32)} {i : Nat} {c : Int32} (h : cs[i]? = some c) : rnC F (cs.take (i + 1)) s = (rnC F (cs.take i) s).bind (stp F c) := by
  rw [List.take_add_one, h, rnC_app]
  rfl
theorem stp_len {F : Nat → Int32} {c : Int32} {s t : List Int32} (h : stp F c s = some t) : t.length ≤ s.length + 1 := by
  unfold stp at h
  split at h
  · cases h; simp
  · split at h
    · cases h; simp
    · split at h
      · split at h
        · cases h; simp
        · cases h
      · split at h
        · split at h
          · cases h; simp
          · cases h
        · split at h
          · cases h; simp
          · cases h
theorem rnC_len {F : Nat → Int32} (cs : List Int32) : ∀ {s t : List Int32}, rnC F cs (some s) = some t → t.length ≤ s.length + cs.length := by
  induction cs with
  | nil => intro s t h; cases h; simp
  | cons a r ih =>
    intro s t h
    have h : rnC F r (stp F a s) = some t := h
    cases hs : stp F a s with
    | none => rw [hs, rnC_none] at h; cases h
    | some u =>
      rw [hs] at h
      have := ih h
      have := stp_len hs
      rw [List.length_cons]
      omega
theorem stp_congr {F F' : Nat → Int32} {c : Int32} (hc : okC c) (h : ∀ k, k < 6 → F k = F' k) (s : List Int32) : stp F c s = stp F' c s := by
  unfold stp
  by_cases h0 : c < 0
  · rw [if_pos h0, if_pos h0]
  · rw [if_neg h0, if_neg h0]
    by_cases h6 : c < 6
    · rw [if_pos h6, if_pos h6]
      obtain ⟨j, hj, rfl⟩ := nI_of h0
      rw [nI_clamp hj, h j ((nI_ltI (b := 6) hj (by decide)).mp h6)]
    · rw [if_neg h6, if_neg h6]
theorem rnC_congr {F F' : Nat → Int32} (h : ∀ k, k < 6 → F k = F' k) (cs : List Int32) : (∀ c ∈ cs, okC c) → ∀ s, rnC F cs s = rnC F' cs s := by
  induction cs with
  | nil => intro _ s; rfl
  | cons a r ih =>
    intro hc s
    show rnC F r (s.bind (stp F a)) = rnC F' r (s.bind (stp F' a))
    have e : s.bind (stp F a) = s.bind (stp F' a) := by
      cases s with
      | none => rfl
      | some t => exact stp_congr (hc a List.mem_cons_self) h t
    rw [e]
    exact ih (fun c q => hc c (List.mem_cons_of_mem _ q)) _
/-- the stack, its top first -/
def RSt (g : Nat → Int32) (s : List Int32) : Prop := ∀ k x, s[k]? = some x → g (s.length - 1 - k) = x
theorem RSt_push {g : Nat → Int32} {s : List Int32} {v : Int32} (h : RSt g s) : RSt (upd g s.length v) (v :: s) := by
  intro k x hk
  cases k with
  | zero => cases hk; simp [upd]
  | succ k =>
    have hk : s[k]? = some x := hk
    have hlt := (List.getElem?_eq_some_iff.mp hk).1
    rw [List.length_cons, show s.length + 1 - 1 - (k + 1) = s.length - 1 - k by omega]
    simp only [upd]
    rw [if_neg (by omega)]
    exact h k x hk
theorem RSt_top {g : Nat → Int32} {x v : Int32} {r : List Int32} (h : RSt g (x :: r)) : RSt (upd g r.length v) (v :: r) := by
  intro k y hk
  cases k with
  | zero => cases hk; simp [upd]
  | succ k =>
    have hk : r[k]? = some y := hk
    have hlt := (List.getElem?_eq_some_iff.mp hk).1
    have := h (k + 1) y hk
    rw [List.length_cons] at this ⊢
    simp only [upd]
    rw [if_neg (by omega)]
    exact this
theorem RSt_two {g : Nat → Int32} {x y v : Int32} {r : List Int32} (h : RSt g (y :: x :: r)) : RSt (upd g r.length v) (v :: r) := by
  refine RSt_top (x := x) (fun k z hk => ?_)
  have := h (k + 1) z hk
  rw [List.length_cons, List.length_cons] at this
  rw [List.length_cons, show r.length + 1 - 1 - k = r.length + 1 + 1 - 1 - (k + 1) by omega]
  exact this
theorem c_Mdone {l : Launch} {X : XT} {d : Nat} {o : Nat} {a b : Int32} {m : Mem} (ho : 10 ≤ o) (ho2 : o ≤ 17) (h12 : o ≠ 12) : Meth l X d M_X11_done [vI (nI o), vI a, vI b] m (fun r m' => r = some (vI (dnV (nI o) a b)) ∧ m' = m) := by
  refine E_X11_done (ls := [vI (nI o), vI a, vI b]) rfl rfl ?_
  repeat refine AW.s rfl ?_
  try dsimp only [List.set_cons_zero, List.set_cons_succ, Option.toList_some, Option.toList_none, List.cons_append, List.nil_append]
  have hc7 : o = 10 ∨ o = 11 ∨ o = 13 ∨ o = 14 ∨ o = 15 ∨ o = 16 ∨ o = 17 := by omega
  rcases hc7 with e | e | e | e | e | e | e <;> subst e
  · refine AW.tout (tgt := 92) rfl (by decide) (by decide) ?_
    have hd : dnV (nI 10) a b = if a = 0 then (if b = 0 then 0 else 1) else 1 := rfl
    rw [hd]
    repeat refine AW.s rfl ?_
    try dsimp only [List.set_cons_zero, List.set_cons_succ, Option.toList_some, Option.toList_none, List.cons_append, List.nil_append]
    refine AW.b rfl (fun hc => ?_) (fun hc => ?_)
    · have e1 := hc
      repeat refine AW.s rfl ?_
      try dsimp only [List.set_cons_zero, List.set_cons_succ, Option.toList_some, Option.toList_none, List.cons_append, List.nil_append]
      refine AW.b rfl (fun hc => ?_) (fun hc => ?_)
      · have e2 := hc
        repeat refine AW.s rfl ?_
        try dsimp only [List.set_cons_zero, List.set_cons_succ, Option.toList_some, Option.toList_none, List.cons_append, List.nil_append]
        exact AW.ri rfl rfl rfl ⟨by rw [if_pos e1, if_pos e2], rfl⟩
      · have e2 := hc
        repeat refine AW.s rfl ?_
        try dsimp only [List.set_cons_zero, List.set_cons_succ, Option.toList_some, Option.toList_none, List.cons_append, List.nil_append]
        exact AW.ri rfl rfl rfl ⟨by rw [if_pos e1, if_neg e2], rfl⟩
    · have e1 := hc
      repeat refine AW.s rfl ?_
      try dsimp only [List.set_cons_zero, List.set_cons_succ, Option.toList_some, Option.toList_none, List.cons_append, List.nil_append]
      exact AW.ri rfl rfl rfl ⟨by rw [if_neg e1], rfl⟩
  · refine AW.tin (tgt := 78) rfl (by decide) (by decide) rfl (by decide) ?_
    have hd : dnV (nI 11) a b = if a = 0 then 0 else if b = 0 then 0 else 1 := rfl
    rw [hd]
    repeat refine AW.s rfl ?_
    try dsimp only [List.set_cons_zero, List.set_cons_succ, Option.toList_some, Option.toList_none, List.cons_append, List.nil_append]
    refine AW.b rfl (fun hc => ?_) (fun hc => ?_)
    · have e1 := hc
      repeat refine AW.s rfl ?_
      try dsimp only [List.set_cons_zero, List.set_cons_succ, Option.toList_some, Option.toList_none, List.cons_append, List.nil_append]
      exact AW.ri rfl rfl rfl ⟨by rw [if_pos e1], rfl⟩
    · have e1 := hc
      repeat refine AW.s rfl ?_
      try dsimp only [List.set_cons_zero, List.set_cons_succ, Option.toList_some, Option.toList_none, List.cons_append, List.nil_append]
      refine AW.b rfl (fun hc => ?_) (fun hc => ?_)
      · have e2 := hc
        repeat refine AW.s rfl ?_
        try dsimp only [List.set_cons_zero, List.set_cons_succ, Option.toList_some, Option.toList_none, List.cons_append, List.nil_append]
        exact AW.ri rfl rfl rfl ⟨by rw [if_neg e1, if_pos e2], rfl⟩
      · have e2 := hc
        repeat refine AW.s rfl ?_
        try dsimp only [List.set_cons_zero, List.set_cons_succ, Option.toList_some, Option.toList_none, List.cons_append, List.nil_append]
        exact AW.ri rfl rfl rfl ⟨by rw [if_neg e1, if_neg e2], rfl⟩
  · refine AW.tin (tgt := 56) rfl (by decide) (by decide) rfl (by decide) ?_
    have hd : dnV (nI 13) a b = if a < b then 1 else 0 := rfl
    rw [hd]
    repeat refine AW.s rfl ?_
    try dsimp only [List.set_cons_zero, List.set_cons_succ, Option.toList_some, Option.toList_none, List.cons_append, List.nil_append]
    refine AW.b rfl (fun hc => ?_) (fun hc => ?_)
    · have e1 := hc
      repeat refine AW.s rfl ?_
      try dsimp only [List.set_cons_zero, List.set_cons_succ, Option.toList_some, Option.toList_none, List.cons_append, List.nil_append]
      exact AW.ri rfl rfl rfl ⟨by rw [if_pos e1], rfl⟩
    · have e1 := hc
      repeat refine AW.s rfl ?_
      try dsimp only [List.set_cons_zero, List.set_cons_succ, Option.toList_some, Option.toList_none, List.cons_append, List.nil_append]
      exact AW.ri rfl rfl rfl ⟨by rw [if_neg e1], rfl⟩
  · refine AW.tin (tgt := 67) rfl (by decide) (by decide) rfl (by decide) ?_
    have hd : dnV (nI 14) a b = if a = b then 1 else 0 := rfl
    rw [hd]
    repeat refine AW.s rfl ?_
    try dsimp only [List.set_cons_zero, List.set_cons_succ, Option.toList_some, Option.toList_none, List.cons_append, List.nil_append]
    refine AW.b rfl (fun hc => ?_) (fun hc => ?_)
    · have e1 := hc
      repeat refine AW.s rfl ?_
      try dsimp only [List.set_cons_zero, List.set_cons_succ, Option.toList_some, Option.toList_none, List.cons_append, List.nil_append]
      exact AW.ri rfl rfl rfl ⟨by rw [if_pos e1], rfl⟩
    · have e1 := hc
      repeat refine AW.s rfl ?_
      try dsimp only [List.set_cons_zero, List.set_cons_succ, Option.toList_some, Option.toList_none, List.cons_append, List.nil_append]
      exact AW.ri rfl rfl rfl ⟨by rw [if_neg e1], rfl⟩
  · refine AW.tin (tgt := 44) rfl (by decide) (by decide) rfl (by decide) ?_
    repeat refine AW.s rfl ?_
    try dsimp only [List.set_cons_zero, List.set_cons_succ, Option.toList_some, Option.toList_none, List.cons_append, List.nil_append]
    exact AW.ri rfl rfl rfl ⟨rfl, rfl⟩
  · refine AW.tin (tgt := 48) rfl (by decide) (by decide) rfl (by decide) ?_
    repeat refine AW.s rfl ?_
    try dsimp only [List.set_cons_zero, List.set_cons_succ, Option.toList_some, Option.toList_none, List.cons_append, List.nil_append]
    exact AW.ri rfl rfl rfl ⟨rfl, rfl⟩
  · refine AW.tin (tgt := 52) rfl (by decide) (by decide) rfl (by decide) ?_
    repeat refine AW.s rfl ?_
    try dsimp only [List.set_cons_zero, List.set_cons_succ, Option.toList_some, Option.toList_none, List.cons_append, List.nil_append]
    exact AW.ri rfl rfl rfl ⟨rfl, rfl⟩
end
section
theorem rowL_last {σ : Sg} : (rowL σ).getLast? = if σ 0 3 = 0 then none else some (σ 6 (σ 0 3 - 1)) := by
  rw [List.getLast?_eq_getElem?, rowL_len]
  by_cases h : σ 0 3 = 0
  · rw [if_pos h]
    rw [List.getElem?_eq_none (by rw [rowL_len]; omega)]
  · rw [if_neg h]
    exact rowL_get (by omega)
theorem c_Msays {l : Launch} {X : XT} {d : Nat} {p w : Nat} {m : Mem} {σ : Sg} {xs : List Nat} {cs : List Int32} (hd : 1 ≤ d) (hs : RepM m σ) (hσ : WF σ) (hp : p < 3) (hw : w < σ 0 1) (hy : RMs m w (some xs)) (ho : WFo (some xs)) (hc0 : MOK m (3 * σ 0 4 + p) cs) : Meth l X d M_X11_says [vR 12 243, vI (nI p), vI (nI w)] m (fun r m' => r = some (vI (clI (mvl (fctV σ (rowL σ) w xs) cs))) ∧ ∀ a, a ≠ 258 → a ≠ 259 → m' a = m a) := by
  obtain ⟨d, rfl⟩ : ∃ e, d = e + 1 := ⟨d - 1, by omega⟩
  obtain ⟨g1, g2, g3⟩ := ho xs rfl
  have hw8 : w < 8 := Nat.lt_of_lt_of_le hw hσ.2.1
  have hl6 : σ 0 4 < 6 := hσ.2.2.2.2.1
  obtain ⟨k1, k2, k3, k4⟩ := hc0
  obtain ⟨vf, hvf⟩ := k4 (fctV σ (rowL σ) w xs)
  have hmv : mvl (fctV σ (rowL σ) w xs) cs = vf := by unfold mvl; rw [hvf]; rfl
  rw [hmv]
  have hlo : m (243 + 18) w = nI xs.length := hy.1
  refine E_X11_says (ls := [vR 12 243, vI (nI p), vI (nI w), vU, vU, vU, vU, vU]) rfl rfl ?_
  -- the codes are run
  have hrun : ∀ m2 : Mem, (∀ a, a ≠ 258 → a ≠ 259 → m2 a = m a) → (∀ k, k < 6 → m2 259 k = fctV σ (rowL σ) w xs k) → ∀ v3 : AV, AW (GM l X (d + 1) M_X11_says (fun r m' => r = some (vI (clI vf)) ∧ ∀ a, a ≠ 258 → a ≠ 259 → m' a = m a)) 146 [vR 12 243, vI (nI p), vI (nI w), v3, vI (nI (3 * σ 0 4 + p)), vI (nI 0), vI (nI 0), vU] [] m2 := by
    intro m2 hf2 hF v3
    refine AW.loop (pc := 146) (σ := List Int32) cs.length (fun i s => [vR 12 243, vI (nI p), vI (nI w), v3, vI (nI (3 * σ 0 4 + p)), vI (nI s.length), vI (nI i), vU]) (fun i s m3 => (∀ a, a ≠ 258 → a ≠ 259 → m3 a = m a) ∧ m3 259 = m2 259 ∧ rnC (fctV σ (rowL σ) w xs) (cs.take i) (some []) = some s ∧ RSt (m3 258) s) (fun i s m3 hi hm3 ih => ?_) 0 [] m2 (Nat.zero_le _) ⟨hf2, rfl, rfl, fun k x hk => by cases hk⟩
    obtain ⟨hf3, h259, hrn, hst⟩ := hm3
    have hsl : s.length ≤ 160 := by
      have := rnC_len _ hrn
      rw [List.length_take] at this
      have : s.length ≤ 0 + min i cs.length := this
      omega
    repeat refine AW.s rfl ?_
    try dsimp only [List.set_cons_zero, List.set_cons_succ, Option.toList_some, Option.toList_none, List.cons_append, List.nil_append]
    refine AW.c rfl (vp_in_nI (by omega) (by decide)) ?_
    try dsimp only [List.set_cons_zero, List.set_cons_succ, Option.toList_some, Option.toList_none, List.cons_append, List.nil_append]
    rw [nI_clamp (by omega), show m3 (243 + 10) (3 * σ 0 4 + p) = nI cs.length by rw [hf3 _ (by decide) (by decide)]; exact k1]
    refine AW.b rfl (fun hc => ?_) (fun hc => ?_)
    · have hlt : i < cs.length := (nI_ltI (by omega) (by omega)).mp hc
      obtain ⟨c, hcc⟩ : ∃ c, cs[i]? = some c := ⟨_, List.getElem?_eq_getElem hlt⟩
      obtain ⟨hcv, hokc⟩ := k3 i c hcc
      have hstep := rnC_step (F := fctV σ (rowL σ) w xs) (s := some []) hcc
      obtain ⟨t, ht⟩ := rnC_take hvf (i + 1)
      rw [hstep, hrn] at ht
      have ht : stp (fctV σ (rowL σ) w xs) c s = some t := ht
      have hnext : rnC (fctV σ (rowL σ) w xs) (cs.take (i + 1)) (some []) = some t := by rw [hstep, hrn]; exact ht
      repeat refine AW.s rfl ?_
      try dsimp only [List.set_cons_zero, List.set_cons_succ, Option.toList_some, Option.toList_none, List.cons_append, List.nil_append]
      rw [show (160 : Int32) * nI (3 * σ 0 4 + p) = nI (160 * (3 * σ 0 4 + p)) from pk_mul 160 _, nI_add]
      refine AW.c rfl (vp_in_nI (by omega) (by decide)) ?_
      try dsimp only [List.set_cons_zero, List.set_cons_succ, Option.toList_some, Option.toList_none, List.cons_append, List.nil_append]
      rw [nI_clamp (by omega), show m3 (243 + 9) (160 * (3 * σ 0 4 + p) + i) = c by rw [hf3 _ (by decide) (by decide)]; exact hcv]
      -- back to the head
      have hback : ∀ m4 : Mem, (∀ a, a ≠ 258 → m4 a = m3 a) → RSt (m4 258) t → AW (GM l X (d + 1) M_X11_says (fun r m' => r = some (vI (clI vf)) ∧ ∀ a, a ≠ 258 → a ≠ 259 → m' a = m a)) 321 [vR 12 243, vI (nI p), vI (nI w), v3, vI (nI (3 * σ 0 4 + p)), vI (nI t.length), vI (nI i), vI c] [] m4 := by
        intro m4 hf4 hst4
        repeat refine AW.u 146 rfl rfl ?_
        try dsimp only [List.set_cons_zero, List.set_cons_succ, Option.toList_some, Option.toList_none, List.cons_append, List.nil_append]
        rw [nI_1]
        refine AW.fg 7 ?_
        try dsimp only [List.set_cons_zero, List.set_cons_succ, Option.toList_some, Option.toList_none, List.cons_append, List.nil_append]
        exact ih t m4 hlt ⟨fun a h1 h2 => by rw [hf4 a h1]; exact hf3 a h1 h2, by rw [hf4 259 (by decide)]; exact h259, hnext, hst4⟩
      have hup : ∀ (k : Nat) (x : Int32) (a : Nat), a ≠ 258 → mUp m3 258 k x a = m3 a := fun k x a ha => mUp_a ha
      unfold stp at ht
      repeat refine AW.s rfl ?_
      try dsimp only [List.set_cons_zero, List.set_cons_succ, Option.toList_some, Option.toList_none, List.cons_append, List.nil_append]
      refine AW.b rfl (fun hc => ?_) (fun hc => ?_)
      · rw [if_pos hc] at ht
        cases ht
        repeat refine AW.s rfl ?_
        try dsimp only [List.set_cons_zero, List.set_cons_succ, Option.toList_some, Option.toList_none, List.cons_append, List.nil_append]
        refine AW.c rfl (⟨vp_in_nI (by omega) (by decide), fun q => absurd q (by decide)⟩) ?_
        try dsimp only [List.set_cons_zero, List.set_cons_succ, Option.toList_some, Option.toList_none, List.cons_append, List.nil_append]
        rw [nI_clamp (by omega)]
        iterate 2 refine AW.s rfl ?_
        try dsimp only [List.set_cons_zero, List.set_cons_succ, Option.toList_some, Option.toList_none, List.cons_append, List.nil_append]
        rw [nI_1]
        refine hback _ (hup _ _) ?_
        rw [mUp_row]
        exact RSt_push hst
      · have hn0 := hc
        rw [if_neg hn0] at ht
        obtain ⟨o, hco, ho9⟩ : ∃ o, c = nI o ∧ (o < 6 ∨ (10 ≤ o ∧ o ≤ 18)) := by
          rcases hokc with q | q
          · exact absurd q hn0
          · exact q
        subst hco
        repeat refine AW.s rfl ?_
        try dsimp only [List.set_cons_zero, List.set_cons_succ, Option.toList_some, Option.toList_none, List.cons_append, List.nil_append]
        refine AW.b rfl (fun hc => ?_) (fun hc => ?_)
        · have h6 : o < 6 := (nI_ltI (b := 6) (by omega) (by decide)).mp hc
          rw [if_pos hc] at ht
          rw [nI_clamp (by omega)] at ht
          cases ht
          repeat refine AW.s rfl ?_
          try dsimp only [List.set_cons_zero, List.set_cons_succ, Option.toList_some, Option.toList_none, List.cons_append, List.nil_append]
          refine AW.c rfl (vp_in_nI (by omega) (by decide)) ?_
          try dsimp only [List.set_cons_zero, List.set_cons_succ, Option.toList_some, Option.toList_none, List.cons_append, List.nil_append]
          rw [nI_clamp (by omega), show m3 (243 + 16) o = fctV σ (rowL σ) w xs o by rw [show m3 (243 + 16) = m2 259 from h259]; exact hF o h6]
          refine AW.c rfl (⟨vp_in_nI (by omega) (by decide), fun q => absurd q (by decide)⟩) ?_
          try dsimp only [List.set_cons_zero, List.set_cons_succ, Option.toList_some, Option.toList_none, List.cons_append, List.nil_append]
          rw [nI_clamp (by omega)]
          iterate 2 refine AW.s rfl ?_
          try dsimp only [List.set_cons_zero, List.set_cons_succ, Option.toList_some, Option.toList_none, List.cons_append, List.nil_append]
          rw [nI_1]
          refine hback _ (hup _ _) ?_
          rw [mUp_row]
          exact RSt_push hst
        · have h6 := hc
          rw [if_neg h6] at ht
          have ho10 : 10 ≤ o ∧ o ≤ 18 := by
            rcases ho9 with q | q
            · exact absurd (nI_lt (b := 6) q (by decide)) h6
            · exact q
          repeat refine AW.s rfl ?_
          try dsimp only [List.set_cons_zero, List.set_cons_succ, Option.toList_some, Option.toList_none, List.cons_append, List.nil_append]
          refine AW.b rfl (fun hc => ?_) (fun hc => ?_)
          · rw [if_pos hc] at ht
            cases s with
            | nil => cases ht
            | cons x r =>
              cases ht
              have hx := hst 0 x rfl
              rw [List.length_cons] at hx hsl
              have hx : m3 258 r.length = x := hx
              repeat refine AW.s rfl ?_
              try dsimp only [List.set_cons_zero, List.set_cons_succ, Option.toList_some, Option.toList_none, List.cons_append, List.nil_append]
              rw [List.length_cons, nI_pred]
              repeat refine AW.s rfl ?_
              try dsimp only [List.set_cons_zero, List.set_cons_succ, Option.toList_some, Option.toList_none, List.cons_append, List.nil_append]
              refine AW.c rfl (vp_in_nI (by omega) (by decide)) ?_
              try dsimp only [List.set_cons_zero, List.set_cons_succ, Option.toList_some, Option.toList_none, List.cons_append, List.nil_append]
              rw [nI_clamp (by omega), show m3 (243 + 15) r.length = x from hx]
              have hst2 : ∀ v, v = (if x = 0 then (1 : Int32) else 0) → AW (GM l X (d + 1) M_X11_says (fun r m' => r = some (vI (clI vf)) ∧ ∀ a, a ≠ 258 → a ≠ 259 → m' a = m a)) 255 [vR 12 243, vI (nI p), vI (nI w), v3, vI (nI (3 * σ 0 4 + p)), vI (nI (r.length + 1)), vI (nI i), vI (nI o)] [vI v, vI (nI r.length), vR 1170 258] m3 := by
                intro v hv
                refine AW.c rfl (⟨vp_in_nI (by omega) (by decide), fun q => absurd q (by decide)⟩) ?_
                try dsimp only [List.set_cons_zero, List.set_cons_succ, Option.toList_some, Option.toList_none, List.cons_append, List.nil_append]
                rw [nI_clamp (by omega)]
                refine AW.s rfl ?_
                try dsimp only [List.set_cons_zero, List.set_cons_succ, Option.toList_some, Option.toList_none, List.cons_append, List.nil_append]
                refine hback _ (hup _ _) ?_
                rw [mUp_row, ← hv]
                exact RSt_top hst
              refine AW.b rfl (fun hc => ?_) (fun hc => ?_)
              · iterate 2 refine AW.s rfl ?_
                try dsimp only [List.set_cons_zero, List.set_cons_succ, Option.toList_some, Option.toList_none, List.cons_append, List.nil_append]
                exact hst2 1 (by rw [if_pos hc])
              · refine AW.s rfl ?_
                try dsimp only [List.set_cons_zero, List.set_cons_succ, Option.toList_some, Option.toList_none, List.cons_append, List.nil_append]
                exact hst2 0 (by rw [if_neg hc])
          · have h12 := hc
            rw [if_neg h12] at ht
            repeat refine AW.s rfl ?_
            try dsimp only [List.set_cons_zero, List.set_cons_succ, Option.toList_some, Option.toList_none, List.cons_append, List.nil_append]
            refine AW.b rfl (fun hc => ?_) (fun hc => ?_)
            · rw [if_pos hc] at ht
              cases s with
              | nil => cases ht
              | cons x r =>
                cases ht
                have hx := hst 0 x rfl
                rw [List.length_cons] at hx hsl
                have hx : m3 258 r.length = x := hx
                repeat refine AW.s rfl ?_
                try dsimp only [List.set_cons_zero, List.set_cons_succ, Option.toList_some, Option.toList_none, List.cons_append, List.nil_append]
                rw [List.length_cons, nI_pred]
                repeat refine AW.s rfl ?_
                try dsimp only [List.set_cons_zero, List.set_cons_succ, Option.toList_some, Option.toList_none, List.cons_append, List.nil_append]
                refine AW.c rfl (vp_in_nI (by omega) (by decide)) ?_
                try dsimp only [List.set_cons_zero, List.set_cons_succ, Option.toList_some, Option.toList_none, List.cons_append, List.nil_append]
                rw [nI_clamp (by omega), show m3 (243 + 15) r.length = x from hx]
                refine AW.s rfl ?_
                try dsimp only [List.set_cons_zero, List.set_cons_succ, Option.toList_some, Option.toList_none, List.cons_append, List.nil_append]
                refine AW.c rfl (⟨vp_in_nI (by omega) (by decide), fun q => absurd q (by decide)⟩) ?_
                try dsimp only [List.set_cons_zero, List.set_cons_succ, Option.toList_some, Option.toList_none, List.cons_append, List.nil_append]
                rw [nI_clamp (by omega)]
                refine AW.s rfl ?_
                try dsimp only [List.set_cons_zero, List.set_cons_succ, Option.toList_some, Option.toList_none, List.cons_append, List.nil_append]
                refine hback _ (hup _ _) ?_
                rw [mUp_row]
                exact RSt_top hst
            · have h18 := hc
              rw [if_neg h18] at ht
              cases s with
              | nil => cases ht
              | cons y r0 =>
                cases r0 with
                | nil => cases ht
                | cons x r =>
                  cases ht
                  have hy0 := hst 0 y rfl
                  have hx0 := hst 1 x rfl
                  rw [List.length_cons, List.length_cons] at hy0 hx0 hsl
                  have hy0 : m3 258 (r.length + 1) = y := hy0
                  have hx0 : m3 258 r.length = x := hx0
                  refine AW.s rfl ?_
                  try dsimp only [List.set_cons_zero, List.set_cons_succ, Option.toList_some, Option.toList_none, List.cons_append, List.nil_append]
                  rw [List.length_cons, List.length_cons, pk_m1]
                  repeat refine AW.s rfl ?_
                  try dsimp only [List.set_cons_zero, List.set_cons_succ, Option.toList_some, Option.toList_none, List.cons_append, List.nil_append]
                  rw [nI_pred]
                  repeat refine AW.s rfl ?_
                  try dsimp only [List.set_cons_zero, List.set_cons_succ, Option.toList_some, Option.toList_none, List.cons_append, List.nil_append]
                  refine AW.c rfl (vp_in_nI (by omega) (by decide)) ?_
                  try dsimp only [List.set_cons_zero, List.set_cons_succ, Option.toList_some, Option.toList_none, List.cons_append, List.nil_append]
                  rw [nI_clamp (by omega), show m3 (243 + 15) r.length = x from hx0]
                  repeat refine AW.s rfl ?_
                  try dsimp only [List.set_cons_zero, List.set_cons_succ, Option.toList_some, Option.toList_none, List.cons_append, List.nil_append]
                  refine AW.c rfl (vp_in_nI (by omega) (by decide)) ?_
                  try dsimp only [List.set_cons_zero, List.set_cons_succ, Option.toList_some, Option.toList_none, List.cons_append, List.nil_append]
                  rw [nI_clamp (by omega), show m3 (243 + 15) (r.length + 1) = y from hy0]
                  refine AW.S k_11_214 ((c_Mdone (o := o) (by omega) (by have : o ≠ 18 := fun q => h18 (by rw [q]; rfl); omega) (fun q => h12 (by rw [q]; rfl)))) rfl rfl rfl rfl (fun r1 m9 hq => ?_)
                  obtain ⟨rfl, hm9⟩ := hq
                  rw [hm9]
                  try dsimp only [List.set_cons_zero, List.set_cons_succ, Option.toList_some, Option.toList_none, List.cons_append, List.nil_append]
                  refine AW.c rfl (⟨vp_in_nI (by omega) (by decide), fun q => absurd q (by decide)⟩) ?_
                  try dsimp only [List.set_cons_zero, List.set_cons_succ, Option.toList_some, Option.toList_none, List.cons_append, List.nil_append]
                  rw [nI_clamp (by omega)]
                  refine hback _ (hup _ _) ?_
                  rw [mUp_row]
                  exact RSt_two hst
    · have : i = cs.length := by
        have : ¬ i < cs.length := fun q => hc ((nI_ltI (by omega) (by omega)).mpr q)
        omega
      subst this
      rw [List.take_length, hvf] at hrn
      cases hrn
      have h0 := hst 0 vf rfl
      have h0 : m3 258 0 = vf := h0
      repeat refine AW.s rfl ?_
      try dsimp only [List.set_cons_zero, List.set_cons_succ, Option.toList_some, Option.toList_none, List.cons_append, List.nil_append]
      refine AW.c rfl (vp_in_nI (n := 0) (by decide) (by decide)) ?_
      try dsimp only [List.set_cons_zero, List.set_cons_succ, Option.toList_some, Option.toList_none, List.cons_append, List.nil_append]
      rw [show (0 : Int32).toNatClampNeg = 0 from rfl, show m3 (243 + 15) 0 = vf from h0]
      refine AW.mmin (G := GM l X (d + 1) M_X11_says _) rfl k_11_218 rR1 (by decide) ?_
      try dsimp only [List.set_cons_zero, List.set_cons_succ, Option.toList_some, Option.toList_none, List.cons_append, List.nil_append]
      refine AW.mmax (G := GM l X (d + 1) M_X11_says _) rfl k_11_223 rR1 (by decide) ?_
      try dsimp only [List.set_cons_zero, List.set_cons_succ, Option.toList_some, Option.toList_none, List.cons_append, List.nil_append]
      exact AW.ri rfl rfl rfl ⟨rfl, hf3⟩
  repeat refine AW.u 5 rfl rfl ?_
  try dsimp only [List.set_cons_zero, List.set_cons_succ, Option.toList_some, Option.toList_none, List.cons_append, List.nil_append]
  refine AW.loop (pc := 5) (σ := Unit) xs.length (fun i _ => [vR 12 243, vI (nI p), vI (nI w), vI (nI (vcnt (σ 0 0) (xs.take i))), vI (nI i), vU, vU, vU]) (fun i _ m1 => m1 = m) (fun i _ m1 hi hm1 ih => ?_) 0 () m (Nat.zero_le _) rfl
  subst hm1
  repeat refine AW.s rfl ?_
  try dsimp only [List.set_cons_zero, List.set_cons_succ, Option.toList_some, Option.toList_none, List.cons_append, List.nil_append]
  refine AW.c rfl (vp_in_nI (by omega) (by decide)) ?_
  try dsimp only [List.set_cons_zero, List.set_cons_succ, Option.toList_some, Option.toList_none, List.cons_append, List.nil_append]
  rw [nI_clamp (by omega), hlo]
  refine AW.b rfl (fun hc => ?_) (fun hc => ?_)
  · have hlt : i < xs.length := (nI_ltI (by omega) (by omega)).mp hc
    obtain ⟨x, hx⟩ : ∃ x, xs[i]? = some x := ⟨_, List.getElem?_eq_getElem hlt⟩
    have hx26 : x < 26 := g1 x (List.mem_of_getElem? hx)
    have hvt := vcnt_take (V := σ 0 0) hx
    repeat refine AW.s rfl ?_
    try dsimp only [List.set_cons_zero, List.set_cons_succ, Option.toList_some, Option.toList_none, List.cons_append, List.nil_append]
    rw [show (40 : Int32) * nI w = nI (40 * w) from pk_mul 40 w, nI_add]
    refine AW.c rfl (vp_in_nI (by omega) (by decide)) ?_
    try dsimp only [List.set_cons_zero, List.set_cons_succ, Option.toList_some, Option.toList_none, List.cons_append, List.nil_append]
    rw [nI_clamp (by omega), show m1 (243 + 17) (40 * w + i) = nI x from hy.2 i x hx]
    refine AW.V k_11_211 ((c_MisVowel hs.1 hσ.1 hx26)) rfl rfl rfl rfl rfl rfl (fun r1 m9 hq => ?_)
    obtain ⟨rfl, hm9⟩ := hq
    rw [hm9]
    try dsimp only [List.set_cons_zero, List.set_cons_succ, Option.toList_some, Option.toList_none, List.cons_append, List.nil_append]
    by_cases q : (σ 0 0).testBit x = true
    · rw [if_pos q]
      rw [if_pos q] at hvt
      refine AW.b rfl (fun hc => ?_) (fun hc => ?_)
      · exact absurd hc (by decide)
      · repeat refine AW.u 5 rfl rfl ?_
        try dsimp only [List.set_cons_zero, List.set_cons_succ, Option.toList_some, Option.toList_none, List.cons_append, List.nil_append]
        rw [nI_1, nI_1, ← hvt]
        exact ih () _ hlt rfl
    · rw [if_neg q]
      rw [if_neg q] at hvt
      have hvt : vcnt (σ 0 0) (xs.take (i + 1)) = vcnt (σ 0 0) (xs.take i) := hvt
      refine AW.b rfl (fun hc => ?_) (fun hc => ?_)
      · repeat refine AW.u 5 rfl rfl ?_
        try dsimp only [List.set_cons_zero, List.set_cons_succ, Option.toList_some, Option.toList_none, List.cons_append, List.nil_append]
        rw [nI_1, show ∀ z : Int32, z + 0 = z from fun z => by simp, ← hvt]
        exact ih () _ hlt rfl
      · exact absurd rfl hc
  · have : i = xs.length := by
      have : ¬ i < xs.length := fun q => hc ((nI_ltI (by omega) (by omega)).mpr q)
      omega
    subst this
    rw [List.take_length]
    repeat refine AW.s rfl ?_
    try dsimp only [List.set_cons_zero, List.set_cons_succ, Option.toList_some, Option.toList_none, List.cons_append, List.nil_append]
    refine AW.c rfl (vp_in_nI (by omega) (by decide)) ?_
    try dsimp only [List.set_cons_zero, List.set_cons_succ, Option.toList_some, Option.toList_none, List.cons_append, List.nil_append]
    rw [nI_clamp (by omega), hlo]
    refine AW.c rfl (⟨vp_in_nI (n := 0) (by decide) (by decide), fun q => absurd q (by decide)⟩) ?_
    try dsimp only [List.set_cons_zero, List.set_cons_succ, Option.toList_some, Option.toList_none, List.cons_append, List.nil_append]
    rw [show (0 : Int32).toNatClampNeg = 0 from rfl]
    repeat refine AW.s rfl ?_
    try dsimp only [List.set_cons_zero, List.set_cons_succ, Option.toList_some, Option.toList_none, List.cons_append, List.nil_append]
    refine AW.c rfl (⟨vp_in_nI (n := 1) (by decide) (by decide), fun q => absurd q (by decide)⟩) ?_
    try dsimp only [List.set_cons_zero, List.set_cons_succ, Option.toList_some, Option.toList_none, List.cons_append, List.nil_append]
    rw [show (1 : Int32).toNatClampNeg = 1 from rfl]
    repeat refine AW.s rfl ?_
    try dsimp only [List.set_cons_zero, List.set_cons_succ, Option.toList_some, Option.toList_none, List.cons_append, List.nil_append]
    rw [mUp_a (show (243 : Nat) ≠ 259 by decide), mUp_a (show (243 : Nat) ≠ 259 by decide), show m1 243 9 = nI (σ 0 3) from hs.2.2.2.1]
    refine AW.c rfl (⟨vp_in_nI (n := 2) (by decide) (by decide), fun q => absurd q (by decide)⟩) ?_
    try dsimp only [List.set_cons_zero, List.set_cons_succ, Option.toList_some, Option.toList_none, List.cons_append, List.nil_append]
    rw [show (2 : Int32).toNatClampNeg = 2 from rfl]
    repeat refine AW.s rfl ?_
    try dsimp only [List.set_cons_zero, List.set_cons_succ, Option.toList_some, Option.toList_none, List.cons_append, List.nil_append]
    have hlast := rowL_last (σ := σ)
    have hf3 : fctV σ (rowL σ) w xs 3 = (match (rowL σ).getLast? with | none => 0 | some r => nI (σ 5 r)) := rfl
    have hfin : ∀ v : Int32, v = fctV σ (rowL σ) w xs 3 → AW (GM l X (d + 1) M_X11_says (fun r m' => r = some (vI (clI vf)) ∧ ∀ a, a ≠ 258 → a ≠ 259 → m' a = m1 a)) 110 [vR 12 243, vI (nI p), vI (nI w), vI (nI (vcnt (σ 0 0) xs)), vI (nI xs.length), vU, vU, vU] [vI v, vI 3, vR 1006 259] (mUp (mUp (mUp m1 259 0 (nI xs.length)) 259 1 (nI (vcnt (σ 0 0) xs))) 259 2 (nI (σ 0 3))) := by
      intro v hv
      refine AW.c rfl (⟨vp_in_nI (n := 3) (by decide) (by decide), fun q => absurd q (by decide)⟩) ?_
      try dsimp only [List.set_cons_zero, List.set_cons_succ, Option.toList_some, Option.toList_none, List.cons_append, List.nil_append]
      rw [show (3 : Int32).toNatClampNeg = 3 from rfl]
      repeat refine AW.s rfl ?_
      try dsimp only [List.set_cons_zero, List.set_cons_succ, Option.toList_some, Option.toList_none, List.cons_append, List.nil_append]
      refine AW.c rfl (⟨vp_in_nI (n := 4) (by decide) (by decide), fun q => absurd q (by decide)⟩) ?_
      try dsimp only [List.set_cons_zero, List.set_cons_succ, Option.toList_some, Option.toList_none, List.cons_append, List.nil_append]
      rw [show (4 : Int32).toNatClampNeg = 4 from rfl]
      repeat refine AW.s rfl ?_
      try dsimp only [List.set_cons_zero, List.set_cons_succ, Option.toList_some, Option.toList_none, List.cons_append, List.nil_append]
      refine AW.c rfl (vp_in_nI (by omega) (by decide)) ?_
      try dsimp only [List.set_cons_zero, List.set_cons_succ, Option.toList_some, Option.toList_none, List.cons_append, List.nil_append]
      rw [nI_clamp (by omega)]
      refine AW.c rfl (⟨vp_in_nI (n := 5) (by decide) (by decide), fun q => absurd q (by decide)⟩) ?_
      try dsimp only [List.set_cons_zero, List.set_cons_succ, Option.toList_some, Option.toList_none, List.cons_append, List.nil_append]
      rw [show (5 : Int32).toNatClampNeg = 5 from rfl]
      repeat refine AW.u 146 rfl rfl ?_
      try dsimp only [List.set_cons_zero, List.set_cons_succ, Option.toList_some, Option.toList_none, List.cons_append, List.nil_append]
      have e243 : (243 : Nat) ≠ 259 := by decide
      rw [mUp_a e243, mUp_a e243, mUp_a e243, mUp_a e243, mUp_a e243, mUp_a e243, show m1 243 14 = nI (σ 0 4) from hs.2.2.2.2.1, show (3 : Int32) * nI (σ 0 4) = nI (3 * σ 0 4) from pk_mul 3 _, nI_add]
      refine hrun _ (fun a _ ha => by rw [mUp_a ha, mUp_a ha, mUp_a ha, mUp_a ha, mUp_a ha, mUp_a ha]) (fun k hk => ?_) _
      rcases k6 hk with e | e | e | e | e | e <;> subst e
      · rw [mUp_n (Or.inr (by decide)), mUp_n (Or.inr (by decide)), mUp_n (Or.inr (by decide)), mUp_n (Or.inr (by decide)), mUp_n (Or.inr (by decide)), mUp_s]; rfl
      · rw [mUp_n (Or.inr (by decide)), mUp_n (Or.inr (by decide)), mUp_n (Or.inr (by decide)), mUp_n (Or.inr (by decide)), mUp_s]; rfl
      · rw [mUp_n (Or.inr (by decide)), mUp_n (Or.inr (by decide)), mUp_n (Or.inr (by decide)), mUp_s]
        show nI (σ 0 3) = nI (rowL σ).length
        rw [rowL_len]
      · rw [mUp_n (Or.inr (by decide)), mUp_n (Or.inr (by decide)), mUp_s]; exact hv
      · rw [mUp_n (Or.inr (by decide)), mUp_s]; rfl
      · rw [mUp_s]
        have e12 : (246 : Nat) ≠ 259 := by decide
        show mUp (mUp (mUp (mUp (mUp m1 _ _ _) _ _ _) _ _ _) _ _ _) _ _ _ 246 w = nI (σ 2 w)
        rw [mUp_a e12, mUp_a e12, mUp_a e12, mUp_a e12, mUp_a e12]
        exact (hs.2.2.2.2.2.1 w hw).2.1
    have e243 : (243 : Nat) ≠ 259 := by decide
    rw [mUp_a e243, mUp_a e243, mUp_a e243, show m1 243 9 = nI (σ 0 3) from hs.2.2.2.1]
    have h3le : σ 0 3 ≤ 8 := hσ.2.2.2.1
    refine AW.b rfl (fun hc => ?_) (fun hc => ?_)
    · have e : σ 0 3 = 0 := (nI_eq (b := 0) (by omega) (by decide)).mp hc
      rw [if_pos e] at hlast
      rw [hlast] at hf3
      iterate 2 refine AW.s rfl ?_
      try dsimp only [List.set_cons_zero, List.set_cons_succ, Option.toList_some, Option.toList_none, List.cons_append, List.nil_append]
      exact hfin 0 hf3.symm
    · have e : ¬ σ 0 3 = 0 := fun q => hc (by rw [q]; rfl)
      rw [if_neg e] at hlast
      rw [hlast] at hf3
      have hrr : σ 6 (σ 0 3 - 1) < σ 0 2 := hσ.2.2.2.2.2.2.2 _ (by omega)
      have h62 : σ 0 2 ≤ 6 := hσ.2.2.1
      repeat refine AW.s rfl ?_
      try dsimp only [List.set_cons_zero, List.set_cons_succ, Option.toList_some, Option.toList_none, List.cons_append, List.nil_append]
      rw [mUp_a e243, mUp_a e243, mUp_a e243, show m1 243 9 = nI (σ 0 3) from hs.2.2.2.1, show nI (σ 0 3) - 1 = nI (σ 0 3 - 1) from pk_sub (b := 1) (by omega)]
      refine AW.c rfl (vp_in_nI (by omega) (by decide)) ?_
      try dsimp only [List.set_cons_zero, List.set_cons_succ, Option.toList_some, Option.toList_none, List.cons_append, List.nil_append]
      have e250 : (250 : Nat) ≠ 259 := by decide
      rw [nI_clamp (by omega), show mUp (mUp (mUp m1 259 0 (nI xs.length)) 259 1 (nI (vcnt (σ 0 0) xs))) 259 2 (nI (σ 0 3)) (243 + 7) (σ 0 3 - 1) = nI (σ 6 (σ 0 3 - 1)) by
        show mUp (mUp (mUp m1 259 0 (nI xs.length)) 259 1 (nI (vcnt (σ 0 0) xs))) 259 2 (nI (σ 0 3)) 250 (σ 0 3 - 1) = _
        rw [mUp_a e250, mUp_a e250, mUp_a e250]; exact hs.2.2.2.2.2.2.2 _ (by omega)]
      refine AW.c rfl (vp_in_nI (by omega) (by decide)) ?_
      try dsimp only [List.set_cons_zero, List.set_cons_succ, Option.toList_some, Option.toList_none, List.cons_append, List.nil_append]
      have e249 : (249 : Nat) ≠ 259 := by decide
      rw [nI_clamp (by omega)]
      refine hfin _ ?_
      show mUp (mUp (mUp m1 259 0 (nI xs.length)) 259 1 (nI (vcnt (σ 0 0) xs))) 259 2 (nI (σ 0 3)) 249 _ = _
      rw [mUp_a e249, mUp_a e249, mUp_a e249, hf3]
      exact (hs.2.2.2.2.2.2.1 _ hrr).2.2
end
section
theorem clI_nat (v : Int32) : ∃ a, a ≤ 99 ∧ clI v = nI a := by
  unfold clI
  by_cases h : v < 99
  · rw [if_pos h]
    by_cases h0 : 0 < v
    · rw [if_pos h0]
      obtain ⟨j, hj, rfl⟩ := nI_of (Int32.not_lt.mpr (Int32.le_of_lt h0))
      have := (nI_ltI (b := 99) hj (by decide)).mp h
      exact ⟨j, by omega, rfl⟩
    · rw [if_neg h0]
      exact ⟨0, by decide, rfl⟩
  · rw [if_neg h]
    exact ⟨99, by decide, rfl⟩
theorem posI {a : Nat} (h : a < 2 ^ 31) : (if 0 < nI a then nI a else 0) = nI a := by
  by_cases q : 0 < nI a
  · rw [if_pos q]
  · rw [if_neg q]
    cases a with
    | zero => rfl
    | succ a => exact absurd (nI_lt (a := 0) (by omega) h) q
def mhV (K : Nat) (n v : Int32) : Int32 := if K = 1 ∨ K = 3 then v + 1 else if K = 2 then 2 * v else if K = 5 then v + n else v
theorem mh_eq {K a b : Nat} (hK : K < 6) (ha : a ≤ 99) (hb : b < 26) : (if 0 < hardB K (nI b) (nI a) then hardB K (nI b) (nI a) else 0) = mhV K (nI b) (nI a) := by
  have h1 : hardB K (nI b) (nI a) = mhV K (nI b) (nI a) ∧ ∃ c, c < 2 ^ 31 ∧ mhV K (nI b) (nI a) = nI c := by
    rcases k6 hK with e | e | e | e | e | e <;> subst e
    · exact ⟨rfl, a, by omega, rfl⟩
    · exact ⟨rfl, a + 1, by omega, nI_1 a⟩
    · refine ⟨?_, 2 * a, by omega, pk_mul 2 a⟩
      show nI a * 2 = 2 * nI a
      rw [show nI a * 2 = nI (a * 2) from pk_mul a 2, show 2 * nI a = nI (2 * a) from pk_mul 2 a, Nat.mul_comm]
    · exact ⟨rfl, a + 1, by omega, nI_1 a⟩
    · refine ⟨?_, a, by omega, rfl⟩
      show nI a * 2 / 2 = nI a
      rw [show nI a * 2 = nI (a * 2) from pk_mul a 2, show nI (a * 2) / 2 = nI (a * 2 / 2) from pk_div (d := 2) (by omega) (by decide) (by decide), show a * 2 / 2 = a by omega]
    · exact ⟨rfl, a + b, by omega, nI_add a b⟩
  obtain ⟨h2, c, hc, h3⟩ := h1
  rw [h2, h3]
  exact posI hc
/-- what working a worth out changes -/
def FrW (m m' : Mem) : Prop := (∀ a, a ≠ 243 → a ≠ 258 → a ≠ 259 → a ≠ 260 → a ≠ 261 → a ≠ 262 → a ≠ 263 → m' a = m a) ∧ ∀ k, k ≠ 36 → m' 243 k = m 243 k
theorem FrS.W {m m' : Mem} (h : FrS m m') : FrW m m' := ⟨fun a x _ _ y z u v => h.1 a x y z u v, h.2⟩
theorem FrW.tr {m m' m'' : Mem} (h1 : FrW m m') (h2 : FrW m' m'') : FrW m m'' := ⟨fun a x y z u v w q => by rw [h2.1 a x y z u v w q, h1.1 a x y z u v w q], fun k q => by rw [h2.2 k q, h1.2 k q]⟩
theorem RepM.W {m m' : Mem} {σ : Sg} (h : RepM m σ) (hf : FrW m m') : RepM m' σ := h.fr (hf.2 0 (by decide)) (hf.2 1 (by decide)) (hf.2 5 (by decide)) (hf.2 9 (by decide)) (hf.2 14 (by decide)) (fun a h1 h2 => hf.1 a (by omega) (by omega) (by omega) (by omega) (by omega) (by omega) (by omega))
theorem MOK.fr {m m' : Mem} {q : Nat} {cs : List Int32} (h : MOK m q cs) (h1 : m' 252 = m 252) (h2 : m' 253 = m 253) : MOK m' q cs := by
  obtain ⟨a1, a2, a3, a4⟩ := h
  exact ⟨by rw [h2]; exact a1, a2, by rw [h1]; exact a3, a4⟩
theorem c_MhardOf {l : Launch} {X : XT} {d : Nat} {w : Nat} {m : Mem} {σ : Sg} {o : Option (List Nat)} {cs : List Int32} (hd : 2 ≤ d) (hs : RepM m σ) (hσ : WF σ) (hw : w < σ 0 1) (hy : RMs m w o) (ho : WFo o) (hc0 : MOK m (3 * σ 0 4 + 0) cs) : Meth l X d M_X11_hardOf [vR 12 243, vI (nI w)] m (fun r m' => r = some (vI (match o with | none => 0 | some xs => hardV σ (rowL σ) (clI (mvl (fctV σ (rowL σ) w xs) cs)))) ∧ ∀ a, a ≠ 258 → a ≠ 259 → m' a = m a) := by
  obtain ⟨d, rfl⟩ : ∃ e, d = e + 1 := ⟨d - 1, by omega⟩
  have hw8 : w < 8 := Nat.lt_of_lt_of_le hw hσ.2.1
  refine E_X11_hardOf (ls := [vR 12 243, vI (nI w), vU, vU]) rfl rfl ?_
  repeat refine AW.s rfl ?_
  try dsimp only [List.set_cons_zero, List.set_cons_succ, Option.toList_some, Option.toList_none, List.cons_append, List.nil_append]
  refine AW.c rfl (vp_in_nI (by omega) (by decide)) ?_
  try dsimp only [List.set_cons_zero, List.set_cons_succ, Option.toList_some, Option.toList_none, List.cons_append, List.nil_append]
  rw [nI_clamp (by omega)]
  repeat refine AW.s rfl ?_
  try dsimp only [List.set_cons_zero, List.set_cons_succ, Option.toList_some, Option.toList_none, List.cons_append, List.nil_append]
  cases o with
  | none =>
    have hy : m (243 + 18) w = -3 := hy
    rw [hy]
    refine AW.b rfl (fun hc => ?_) (fun hc => ?_)
    · repeat refine AW.s rfl ?_
      try dsimp only [List.set_cons_zero, List.set_cons_succ, Option.toList_some, Option.toList_none, List.cons_append, List.nil_append]
      exact AW.ri rfl rfl rfl ⟨rfl, fun _ _ _ => rfl⟩
    · exact absurd rfl hc
  | some xs =>
    obtain ⟨g1, g2, g3⟩ := ho xs rfl
    rw [show m (243 + 18) w = nI xs.length from hy.1]
    refine AW.b rfl (fun hc => ?_) (fun hc => ?_)
    · have h9 := congrArg Int32.toInt hc
      rw [nI_toInt (by omega)] at h9
      have : (-3 : Int32).toInt = -3 := rfl
      omega
    · repeat refine AW.s rfl ?_
      try dsimp only [List.set_cons_zero, List.set_cons_succ, Option.toList_some, Option.toList_none, List.cons_append, List.nil_append]
      refine AW.V k_11_249 ((c_Msays (p := 0) (by omega) hs hσ (by decide) hw hy ho hc0)) rfl rfl rfl rfl rfl rfl (fun r1 m2 hq => ?_)
      obtain ⟨rfl, hf⟩ := hq
      try dsimp only
      obtain ⟨a, ha, hcl⟩ := clI_nat (mvl (fctV σ (rowL σ) w xs) cs)
      rw [hcl]
      have hhv : hardV σ (rowL σ) (nI a) = (match (rowL σ).getLast? with | none => nI a | some r => if 0 < hardB (σ 3 r) (nI (σ 5 r)) (nI a) then hardB (σ 3 r) (nI (σ 5 r)) (nI a) else 0) := rfl
      have hlast := rowL_last (σ := σ)
      have h3le : σ 0 3 ≤ 8 := hσ.2.2.2.1
      have h62 : σ 0 2 ≤ 6 := hσ.2.2.1
      repeat refine AW.s rfl ?_
      try dsimp only [List.set_cons_zero, List.set_cons_succ, Option.toList_some, Option.toList_none, List.cons_append, List.nil_append]
      have h9 : m2 243 9 = nI (σ 0 3) := by rw [hf 243 (by decide) (by decide)]; exact hs.2.2.2.1
      rw [h9]
      refine AW.b rfl (fun hc => ?_) (fun hc => ?_)
      · have e : σ 0 3 = 0 := (nI_eq (b := 0) (by omega) (by decide)).mp hc
        rw [if_pos e] at hlast
        rw [hlast] at hhv
        repeat refine AW.s rfl ?_
        try dsimp only [List.set_cons_zero, List.set_cons_succ, Option.toList_some, Option.toList_none, List.cons_append, List.nil_append]
        exact AW.ri rfl rfl rfl ⟨by rw [hhv], hf⟩
      · have e : ¬ σ 0 3 = 0 := fun q => hc (by rw [q]; rfl)
        rw [if_neg e] at hlast
        have hrr : σ 6 (σ 0 3 - 1) < σ 0 2 := hσ.2.2.2.2.2.2.2 _ (by omega)
        obtain ⟨w1, w2, w3⟩ := hσ.2.2.2.2.2.2.1 _ hrr
        obtain ⟨q1, q2, q3⟩ := hs.2.2.2.2.2.2.1 _ hrr
        rw [hlast] at hhv
        have hhv : hardV σ (rowL σ) (nI a) = mhV (σ 3 (σ 6 (σ 0 3 - 1))) (nI (σ 5 (σ 6 (σ 0 3 - 1)))) (nI a) := by rw [hhv]; exact mh_eq w1 ha w3
        rw [hhv]
        repeat refine AW.s rfl ?_
        try dsimp only [List.set_cons_zero, List.set_cons_succ, Option.toList_some, Option.toList_none, List.cons_append, List.nil_append]
        rw [h9, show nI (σ 0 3) - 1 = nI (σ 0 3 - 1) from pk_sub (b := 1) (by omega)]
        refine AW.c rfl (vp_in_nI (by omega) (by decide)) ?_
        try dsimp only [List.set_cons_zero, List.set_cons_succ, Option.toList_some, Option.toList_none, List.cons_append, List.nil_append]
        rw [nI_clamp (by omega), show m2 (243 + 7) (σ 0 3 - 1) = nI (σ 6 (σ 0 3 - 1)) by rw [hf _ (by decide) (by decide)]; exact hs.2.2.2.2.2.2.2 _ (by omega)]
        have qk : m2 (243 + 4) (σ 6 (σ 0 3 - 1)) = nI (σ 3 (σ 6 (σ 0 3 - 1))) := by rw [hf _ (by decide) (by decide)]; exact q1
        have qn : m2 (243 + 6) (σ 6 (σ 0 3 - 1)) = nI (σ 5 (σ 6 (σ 0 3 - 1))) := by rw [hf _ (by decide) (by decide)]; exact q3
        generalize σ 6 (σ 0 3 - 1) = r at *
        generalize hKK : σ 3 r = K at *
        repeat refine AW.s rfl ?_
        try dsimp only [List.set_cons_zero, List.set_cons_succ, Option.toList_some, Option.toList_none, List.cons_append, List.nil_append]
        refine AW.c rfl (vp_in_nI (by omega) (by decide)) ?_
        try dsimp only [List.set_cons_zero, List.set_cons_succ, Option.toList_some, Option.toList_none, List.cons_append, List.nil_append]
        rw [nI_clamp (by omega), qk]
        repeat refine AW.s rfl ?_
        try dsimp only [List.set_cons_zero, List.set_cons_succ, Option.toList_some, Option.toList_none, List.cons_append, List.nil_append]
        refine AW.b rfl (fun hc => ?_) (fun hc => ?_)
        · have e1 : K = 1 := (nI_eq (b := 1) (by omega) (by decide)).mp hc
          repeat refine AW.s rfl ?_
          try dsimp only [List.set_cons_zero, List.set_cons_succ, Option.toList_some, Option.toList_none, List.cons_append, List.nil_append]
          exact AW.ri rfl rfl rfl ⟨by unfold mhV; rw [if_pos (Or.inl e1)], hf⟩
        · have e1 : ¬ K = 1 := fun q => hc (by rw [q]; rfl)
          repeat refine AW.s rfl ?_
          try dsimp only [List.set_cons_zero, List.set_cons_succ, Option.toList_some, Option.toList_none, List.cons_append, List.nil_append]
          refine AW.c rfl (vp_in_nI (by omega) (by decide)) ?_
          try dsimp only [List.set_cons_zero, List.set_cons_succ, Option.toList_some, Option.toList_none, List.cons_append, List.nil_append]
          rw [nI_clamp (by omega), qk]
          repeat refine AW.s rfl ?_
          try dsimp only [List.set_cons_zero, List.set_cons_succ, Option.toList_some, Option.toList_none, List.cons_append, List.nil_append]
          refine AW.b rfl (fun hc => ?_) (fun hc => ?_)
          · have e3 : K = 3 := (nI_eq (b := 3) (by omega) (by decide)).mp hc
            repeat refine AW.s rfl ?_
            try dsimp only [List.set_cons_zero, List.set_cons_succ, Option.toList_some, Option.toList_none, List.cons_append, List.nil_append]
            exact AW.ri rfl rfl rfl ⟨by unfold mhV; rw [if_pos (Or.inr e3)], hf⟩
          · have e3 : ¬ K = 3 := fun q => hc (by rw [q]; rfl)
            repeat refine AW.s rfl ?_
            try dsimp only [List.set_cons_zero, List.set_cons_succ, Option.toList_some, Option.toList_none, List.cons_append, List.nil_append]
            refine AW.c rfl (vp_in_nI (by omega) (by decide)) ?_
            try dsimp only [List.set_cons_zero, List.set_cons_succ, Option.toList_some, Option.toList_none, List.cons_append, List.nil_append]
            rw [nI_clamp (by omega), qk]
            repeat refine AW.s rfl ?_
            try dsimp only [List.set_cons_zero, List.set_cons_succ, Option.toList_some, Option.toList_none, List.cons_append, List.nil_append]
            have n13 : ¬ (K = 1 ∨ K = 3) := fun z => z.elim e1 e3
            refine AW.b rfl (fun hc => ?_) (fun hc => ?_)
            · have e2 : K = 2 := (nI_eq (b := 2) (by omega) (by decide)).mp hc
              repeat refine AW.s rfl ?_
              try dsimp only [List.set_cons_zero, List.set_cons_succ, Option.toList_some, Option.toList_none, List.cons_append, List.nil_append]
              exact AW.ri rfl rfl rfl ⟨by unfold mhV; rw [if_neg n13, if_pos e2], hf⟩
            · have e2 : ¬ K = 2 := fun q => hc (by rw [q]; rfl)
              repeat refine AW.s rfl ?_
              try dsimp only [List.set_cons_zero, List.set_cons_succ, Option.toList_some, Option.toList_none, List.cons_append, List.nil_append]
              refine AW.c rfl (vp_in_nI (by omega) (by decide)) ?_
              try dsimp only [List.set_cons_zero, List.set_cons_succ, Option.toList_some, Option.toList_none, List.cons_append, List.nil_append]
              rw [nI_clamp (by omega), qk]
              repeat refine AW.s rfl ?_
              try dsimp only [List.set_cons_zero, List.set_cons_succ, Option.toList_some, Option.toList_none, List.cons_append, List.nil_append]
              refine AW.b rfl (fun hc => ?_) (fun hc => ?_)
              · have e5 : K = 5 := (nI_eq (b := 5) (by omega) (by decide)).mp hc
                repeat refine AW.s rfl ?_
                try dsimp only [List.set_cons_zero, List.set_cons_succ, Option.toList_some, Option.toList_none, List.cons_append, List.nil_append]
                refine AW.c rfl (vp_in_nI (by omega) (by decide)) ?_
                try dsimp only [List.set_cons_zero, List.set_cons_succ, Option.toList_some, Option.toList_none, List.cons_append, List.nil_append]
                rw [nI_clamp (by omega), qn]
                repeat refine AW.s rfl ?_
                try dsimp only [List.set_cons_zero, List.set_cons_succ, Option.toList_some, Option.toList_none, List.cons_append, List.nil_append]
                exact AW.ri rfl rfl rfl ⟨by unfold mhV; rw [if_neg n13, if_neg e2, if_pos e5], hf⟩
              · have e5 : ¬ K = 5 := fun q => hc (by rw [q]; rfl)
                repeat refine AW.s rfl ?_
                try dsimp only [List.set_cons_zero, List.set_cons_succ, Option.toList_some, Option.toList_none, List.cons_append, List.nil_append]
                exact AW.ri rfl rfl rfl ⟨by unfold mhV; rw [if_neg n13, if_neg e2, if_neg e5], hf⟩
theorem i32_asub (a b c : Int32) : a + (b - c) = a + b - c := by
  apply Int32.toBitVec_inj.1
  show a.toBitVec + (b.toBitVec - c.toBitVec) = a.toBitVec + b.toBitVec - c.toBitVec
  rw [BitVec.sub_eq_add_neg, BitVec.sub_eq_add_neg, BitVec.add_assoc]
theorem i32_sub0 (a : Int32) : a - 0 = a := by
  apply Int32.toBitVec_inj.1
  show a.toBitVec - 0#32 = a.toBitVec
  simp
theorem c_MworthNow {l : Launch} {X : XT} {d : Nat} {m : Mem} {σ : Sg} {css : Nat → List Int32} (hd : 5 ≤ d) (hs : RepM m σ) (hσ : WF σ) (hc0 : ∀ p, p < 3 → MOK m (3 * σ 0 4 + p) (css p)) : Meth l X d M_X11_worthNow [vR 12 243] m (fun r m' => r = some (vI (worthW σ (rowL σ) (σ 0 1) (saidS σ (rowL σ)) (fun p F => clI (mvl F (css p))) (σ 0 1))) ∧ FrW m m' ∧ ∀ w, w < σ 0 1 → RMs m' w (saidS σ (rowL σ) w)) := by
  obtain ⟨d, rfl⟩ : ∃ e, d = e + 1 := ⟨d - 1, by omega⟩
  have h8 := hσ.2.1
  have hwf : ∀ w, w < σ 0 1 → WFo (saidS σ (rowL σ) w) := fun w hw => saidS_wf hσ (rowL_wf hσ) hw
  refine E_X11_worthNow (ls := [vR 12 243, vU, vU, vU]) rfl rfl ?_
  repeat refine AW.s rfl ?_
  try dsimp only [List.set_cons_zero, List.set_cons_succ, Option.toList_some, Option.toList_none, List.cons_append, List.nil_append]
  refine AW.V k_11_252 ((c_MsayAll (by omega) hs hσ)) rfl rfl rfl rfl rfl rfl (fun r1 m1 hq => ?_)
  obtain ⟨rfl, p1, p2⟩ := hq
  repeat refine AW.s rfl ?_
  try dsimp only [List.set_cons_zero, List.set_cons_succ, Option.toList_some, Option.toList_none, List.cons_append, List.nil_append]
  refine AW.V k_11_255 ((c_Malike (by omega) h8 (by rw [p2.2 1 (by decide)]; exact hs.2.1) p1 hwf)) rfl rfl rfl rfl rfl rfl (fun r1 m2 hq => ?_)
  obtain ⟨al, rfl, hal, hm2⟩ := hq
  rw [hm2]
  generalize hfS : saidS σ (rowL σ) = f at *
  generalize hτ : (fun (p : Nat) (F : Nat → Int32) => clI (mvl F (css p))) = τ at *
  have hτe : ∀ p F, τ p F = clI (mvl F (css p)) := fun p F => by rw [← hτ]
  repeat refine AW.u 13 rfl rfl ?_
  try dsimp only [List.set_cons_zero, List.set_cons_succ, Option.toList_some, Option.toList_none, List.cons_append, List.nil_append]
  refine AW.loop (pc := 13) (σ := Unit) (σ 0 1) (fun i _ => [vR 12 243, vI al, vI (worthW σ (rowL σ) (σ 0 1) f τ i), vI (nI i)]) (fun i _ m3 => ∀ a, a ≠ 258 → a ≠ 259 → m3 a = m1 a) (fun i _ m3 hi hf ih => ?_) 0 () m1 (Nat.zero_le _) (fun _ _ _ => rfl)
  have hfw : FrW m m3 := p2.W.tr ⟨fun a _ h2 h3 _ _ _ _ => hf a h2 h3, fun k _ => by rw [hf 243 (by decide) (by decide)]⟩
  have hs3 : RepM m3 σ := hs.W hfw
  have hr3 : ∀ w, w < σ 0 1 → RMs m3 w (f w) := fun w hw => (p1 w hw).fr (hwf w hw) (by rw [hf 261 (by decide) (by decide)]) (fun k _ => by rw [hf 260 (by decide) (by decide)])
  have hm3 : ∀ p, p < 3 → MOK m3 (3 * σ 0 4 + p) (css p) := fun p hp => (hc0 p hp).fr (hfw.1 252 (by decide) (by decide) (by decide) (by decide) (by decide) (by decide) (by decide)) (hfw.1 253 (by decide) (by decide) (by decide) (by decide) (by decide) (by decide) (by decide))
  repeat refine AW.s rfl ?_
  try dsimp only [List.set_cons_zero, List.set_cons_succ, Option.toList_some, Option.toList_none, List.cons_append, List.nil_append]
  rw [hs3.2.1]
  refine AW.b rfl (fun hc => ?_) (fun hc => ?_)
  · have hlt : i < σ 0 1 := (nI_ltI (by omega) (by omega)).mp hc
    repeat refine AW.s rfl ?_
    try dsimp only [List.set_cons_zero, List.set_cons_succ, Option.toList_some, Option.toList_none, List.cons_append, List.nil_append]
    refine AW.c rfl (vp_in_nI (by omega) (by decide)) ?_
    try dsimp only [List.set_cons_zero, List.set_cons_succ, Option.toList_some, Option.toList_none, List.cons_append, List.nil_append]
    rw [nI_clamp (by omega)]
    repeat refine AW.s rfl ?_
    try dsimp only [List.set_cons_zero, List.set_cons_succ, Option.toList_some, Option.toList_none, List.cons_append, List.nil_append]
    have hri := hr3 i hlt
    have hwi := hwf i hlt
    cases hfi : f i with
    | none =>
      rw [hfi] at hri
      rw [show m3 (243 + 18) i = -3 from hri]
      refine AW.b rfl (fun hc => ?_) (fun hc => ?_)
      · repeat refine AW.u 13 rfl rfl ?_
        try dsimp only [List.set_cons_zero, List.set_cons_succ, Option.toList_some, Option.toList_none, List.cons_append, List.nil_append]
        rw [nI_1, ← worthW_none hfi]
        exact ih () _ hlt hf
      · exact absurd rfl hc
    | some xs =>
      rw [hfi] at hri hwi
      obtain ⟨g1, g2, g3⟩ := hwi xs rfl
      have hws := worthW_some (σ := σ) (rw := rowL σ) (n := σ 0 1) (τ := τ) hfi
      rw [show m3 (243 + 18) i = nI xs.length from hri.1]
      refine AW.b rfl (fun hc => ?_) (fun hc => ?_)
      · have h9 := congrArg Int32.toInt hc
        rw [nI_toInt (by omega)] at h9
        have : (-3 : Int32).toInt = -3 := rfl
        omega
      · repeat refine AW.s rfl ?_
        try dsimp only [List.set_cons_zero, List.set_cons_succ, Option.toList_some, Option.toList_none, List.cons_append, List.nil_append]
        refine AW.V k_11_249 ((c_Msays (p := 1) (by omega) hs3 hσ (by decide) hlt hri hwi (hm3 1 (by decide)))) rfl rfl rfl rfl rfl rfl (fun r1 m4 hq => ?_)
        obtain ⟨rfl, hf4⟩ := hq
        repeat refine AW.s rfl ?_
        try dsimp only [List.set_cons_zero, List.set_cons_succ, Option.toList_some, Option.toList_none, List.cons_append, List.nil_append]
        have fw4 : FrW m3 m4 := ⟨fun a _ h2 h3 _ _ _ _ => hf4 a h2 h3, fun k _ => by rw [hf4 243 (by decide) (by decide)]⟩
        have hri4 : RMs m4 i (some xs) := hri.fr hwi (by rw [hf4 261 (by decide) (by decide)]) (fun k _ => by rw [hf4 260 (by decide) (by decide)])
        refine AW.V k_11_259 ((c_MhardOf (cs := css 0) (by omega) (hs3.W fw4) hσ hlt hri4 hwi ((hm3 0 (by decide)).fr (hf4 252 (by decide) (by decide)) (hf4 253 (by decide) (by decide))))) rfl rfl rfl rfl rfl rfl (fun r1 m5 hq => ?_)
        obtain ⟨rfl, hf5⟩ := hq
        repeat refine AW.s rfl ?_
        try dsimp only [List.set_cons_zero, List.set_cons_succ, Option.toList_some, Option.toList_none, List.cons_append, List.nil_append]
        rw [← hτe, ← hτe]
        have hal2 := hal.getS (k := i) (by omega)
        have hb := alB_iff (f := f) hlt
        have fw5 : FrW m3 m5 := fw4.tr ⟨fun a _ h2 h3 _ _ _ _ => hf5 a h2 h3, fun k _ => by rw [hf5 243 (by decide) (by decide)]⟩
        have hri5 : RMs m5 i (some xs) := hri4.fr hwi (by rw [hf5 261 (by decide) (by decide)]) (fun k _ => by rw [hf5 260 (by decide) (by decide)])
        by_cases hai : alB (σ 0 1) f i = true
        · rw [hal2.1 (hb.mp hai)]
          rw [if_pos hai] at hws
          refine AW.b rfl (fun hc => ?_) (fun hc => ?_)
          · repeat refine AW.s rfl ?_
            try dsimp only [List.set_cons_zero, List.set_cons_succ, Option.toList_some, Option.toList_none, List.cons_append, List.nil_append]
            refine AW.V k_11_249 ((c_Msays (p := 2) (by omega) (hs3.W fw5) hσ (by decide) hlt hri5 hwi ((hm3 2 (by decide)).fr (by rw [hf5 252 (by decide) (by decide), hf4 252 (by decide) (by decide)]) (by rw [hf5 253 (by decide) (by decide), hf4 253 (by decide) (by decide)])))) rfl rfl rfl rfl rfl rfl (fun r1 m6 hq => ?_)
            obtain ⟨rfl, hf6⟩ := hq
            rw [← hτe]
            repeat refine AW.u 13 rfl rfl ?_
            try dsimp only [List.set_cons_zero, List.set_cons_succ, Option.toList_some, Option.toList_none, List.cons_append, List.nil_append]
            rw [nI_1, i32_asub, ← hws]
            exact ih () _ hlt (fun a h1 h2 => by rw [hf6 a h1 h2, hf5 a h1 h2, hf4 a h1 h2]; exact hf a h1 h2)
          · exact absurd rfl hc
        · rw [hal2.2 (fun q => hai (hb.mpr q))]
          rw [if_neg hai] at hws
          refine AW.b rfl (fun hc => ?_) (fun hc => ?_)
          · exact absurd hc (by decide)
          · repeat refine AW.u 13 rfl rfl ?_
            try dsimp only [List.set_cons_zero, List.set_cons_succ, Option.toList_some, Option.toList_none, List.cons_append, List.nil_append]
            rw [nI_1, i32_sub0, ← hws]
            exact ih () _ hlt (fun a h1 h2 => by rw [hf5 a h1 h2, hf4 a h1 h2]; exact hf a h1 h2)
  · have : i = σ 0 1 := by
      have : ¬ i < σ 0 1 := fun q => hc ((nI_ltI (by omega) (by omega)).mpr q)
      omega
    subst this
    repeat refine AW.s rfl ?_
    try dsimp only [List.set_cons_zero, List.set_cons_succ, Option.toList_some, Option.toList_none, List.cons_append, List.nil_append]
    exact AW.ri rfl rfl rfl ⟨rfl, hfw, hr3⟩
end
section
/-- first, most, best: what is kept of ways looked at -/
abbrev KB : Type := Int32 × Int32 × Int32
def kbF (s : KB) (q : Int32 × Int32) : KB := if s.1 = 0 then (if s.2.1 < q.1 then (0, q.1, q.2) else s) else (0, q.1, q.2)
def kbOf (m : Mem) : KB := (m 67 3, m 67 4, m 67 5)
theorem c_keepBetter {l : Launch} {X : XT} {d : Nat} {w g : Int32} {m : Mem} : Meth l X d M_X1_keepBetter [vR 2 67, vI w, vI g] m (fun r m' => r = none ∧ kbOf m' = kbF (kbOf m) (w, g) ∧ (∀ a, a ≠ 67 → m' a = m a)) := by
  have hput : AW (GM l X d M_X1_keepBetter (fun r m' => r = none ∧ kbOf m' = (0, w, g) ∧ (∀ a, a ≠ 67 → m' a = m a))) 15 [vR 2 67, vI w, vI g] [] m := by
    repeat refine AW.s rfl ?_
    try dsimp only [List.set_cons_zero, List.set_cons_succ, Option.toList_some, Option.toList_none, List.cons_append, List.nil_append]
    refine AW.c rfl (Or.inl rfl) ?_
    try dsimp only [List.set_cons_zero, List.set_cons_succ, Option.toList_some, Option.toList_none, List.cons_append, List.nil_append]
    repeat refine AW.s rfl ?_
    try dsimp only [List.set_cons_zero, List.set_cons_succ, Option.toList_some, Option.toList_none, List.cons_append, List.nil_append]
    refine AW.rv rfl rfl ⟨rfl, ?_, fun a ha => by rw [mUp_a ha, mUp_a ha, mUp_a ha]⟩
    unfold kbOf
    rw [mUp_s, mUp_n (Or.inr (by decide)), mUp_n (Or.inr (by decide)), mUp_s, mUp_n (Or.inr (by decide)), mUp_s]
  refine E_X1_keepBetter (ls := [vR 2 67, vI w, vI g]) rfl rfl ?_
  have e0 : kbF (kbOf m) (w, g) = if m 67 3 = 0 then (if m 67 4 < w then (0, w, g) else kbOf m) else (0, w, g) := rfl
  rw [e0]
  repeat refine AW.s rfl ?_
  try dsimp only [List.set_cons_zero, List.set_cons_succ, Option.toList_some, Option.toList_none, List.cons_append, List.nil_append]
  refine AW.b rfl (fun hc => ?_) (fun hc => ?_)
  · rw [if_pos hc]
    repeat refine AW.s rfl ?_
    try dsimp only [List.set_cons_zero, List.set_cons_succ, Option.toList_some, Option.toList_none, List.cons_append, List.nil_append]
    refine AW.b rfl (fun hc => ?_) (fun hc => ?_)
    · rw [if_pos hc]
      exact hput
    · rw [if_neg hc]
      exact AW.rv rfl rfl ⟨rfl, rfl, fun _ _ => rfl⟩
  · rw [if_neg hc]
    exact hput
/-- all ways that go on from a beginning, k rules still to come -/
def cmpW (n : Nat) (k : Nat) (π : List Nat) : List (List Nat) := match k with
  | 0 => [π]
  | k + 1 => (List.range n).flatMap (fun r => if r ∈ π then [] else cmpW n k (π ++ [r]))
def digW (π : List Nat) : Nat := π.foldl (fun a r => a * 10 + r + 1) 0
/-- what a way is worth, and its digits -/
def wayV (σ : Sg) (τ : Nat → (Nat → Int32) → Int32) (π : List Nat) : Int32 × Int32 := (worthW σ π (σ 0 1) (saidS σ π) τ (σ 0 1), nI (digW π))
theorem digW_app (π : List Nat) (r : Nat) : digW (π ++ [r]) = digW π * 10 + r + 1 := by
  unfold digW
  rw [List.foldl_append]
  rfl
/-- what goOn may change at a depth -/
def FrO (T dp : Nat) (m m' : Mem) : Prop := (∀ a, a ≠ 67 → a ≠ 69 → a ≠ 70 → a ≠ 72 → a ≠ T + 4 → (a < 68 + 5 + 18 * (dp + 1) ∨ 198 < a) → m' a = m a) ∧ ∀ i, i < dp → m' 70 i = m 70 i
theorem FrO.tr {T dp : Nat} {m m' m'' : Mem} (h1 : FrO T dp m m') (h2 : FrO T dp m' m'') : FrO T dp m m'' := ⟨fun a x y z u v w => by rw [h2.1 a x y z u v w, h1.1 a x y z u v w], fun i hi => by rw [h2.2 i hi, h1.2 i hi]⟩
set_option maxRecDepth 2000 in
theorem c_goOn {l : Launch} {X : XT} {σ : Sg} (hσ : WF σ) {T : Nat} {en : Nat → Nat} {τ : Nat → (Nat → Int32) → Int32} (hT : 199 ≤ T) : ∀ (k d : Nat) (π : List Nat) (u : Int32) (m : Mem), 4 + k ≤ d → π.length + k = σ 0 2 → (∀ r ∈ π, r < σ 0 2) → RepS m 1 σ → TOK m T en → (∀ p F, p < 3 → tellV m T en p F = τ p F) → RepR m 69 π → isBits u (fun r => r ∈ π) → RepYs m (68 + 5 + 18 * π.length) (σ 0 1) (saidS σ π) →
    Meth l X d M_X1_goOn [vR 2 67, vR 8 1, vR 10 T, vI (nI π.length), vI u, vI (nI (digW π))] m (fun r m' => r = none ∧ kbOf m' = ((cmpW (σ 0 2) k π).map (wayV σ τ)).foldl kbF (kbOf m) ∧ FrO T π.length m m') := by
  intro k
  have h6 : σ 0 2 ≤ 6 := hσ.2.2.1
  have h8 : σ 0 1 ≤ 8 := hσ.2.1
  induction k with
  | zero =>
    intro d π u m hd hlen hπ hs ht hτ hρ hu hY
    obtain ⟨d, rfl⟩ : ∃ e, d = e + 1 := ⟨d - 1, by omega⟩
    have hpl : π.length = σ 0 2 := by omega
    refine E_X1_goOn (ls := [vR 2 67, vR 8 1, vR 10 T, vI (nI π.length), vI u, vI (nI (digW π)), vU]) rfl rfl ?_
    repeat refine AW.s rfl ?_
    try dsimp only [List.set_cons_zero, List.set_cons_succ, Option.toList_some, Option.toList_none, List.cons_append, List.nil_append]
    rw [show m 1 8 = nI (σ 0 2) from hs.2.2.1]
    refine AW.b rfl (fun hc => ?_) (fun hc => ?_)
    · exact absurd ((nI_ltI (by omega) (by omega)).mp hc) (by omega)
    · repeat refine AW.s rfl ?_
      try dsimp only [List.set_cons_zero, List.set_cons_succ, Option.toList_some, Option.toList_none, List.cons_append, List.nil_append]
      refine AW.c rfl (vp_in_nI (by omega) (by decide)) ?_
      try dsimp only [List.set_cons_zero, List.set_cons_succ, Option.toList_some, Option.toList_none, List.cons_append, List.nil_append]
      rw [nI_clamp (by omega)]
      have hfw : ∀ w, w < σ 0 1 → WFo (saidS σ π w) := fun w hw => saidS_wf hσ ⟨by omega, hπ⟩ hw
      refine AW.V k_1_53 ((c_worth (n := σ 0 1) (rw := π) (ρ := 69) (by omega) hs hσ ⟨by omega, hπ⟩ hρ ht (Nat.le_refl _) hY hfw (by omega) (by omega) (by omega) (by omega) (by omega) (by omega) (by omega))) rfl rfl rfl rfl rfl rfl (fun r1 m2 hq => ?_)
      obtain ⟨rfl, hf⟩ := hq
      repeat refine AW.s rfl ?_
      try dsimp only [List.set_cons_zero, List.set_cons_succ, Option.toList_some, Option.toList_none, List.cons_append, List.nil_append]
      refine AW.V k_1_57 (c_keepBetter) rfl rfl rfl rfl rfl rfl (fun r1 m3 hq => ?_)
      obtain ⟨rfl, hkb, hf3⟩ := hq
      have hkm : kbOf m2 = kbOf m := by unfold kbOf; rw [hf 67 (by omega) (by omega)]
      refine AW.rv rfl rfl ⟨rfl, ?_, ⟨fun a h1 h2 h3 h4 h5 _ => by rw [hf3 a h1]; exact hf a h4 h5, fun i _ => by rw [hf3 70 (by decide)]; rw [hf 70 (by omega) (by omega)]⟩⟩
      rw [hkb, hkm]
      have hww : worthW σ π (σ 0 1) (saidS σ π) (tellV m T en) (σ 0 1) = worthW σ π (σ 0 1) (saidS σ π) τ (σ 0 1) := by
        have : ∀ w, worthW σ π (σ 0 1) (saidS σ π) (tellV m T en) w = worthW σ π (σ 0 1) (saidS σ π) τ w := by
          intro w
          induction w with
          | zero => rfl
          | succ w ih =>
            cases hfw : saidS σ π w with
            | none => rw [worthW_none hfw, worthW_none hfw, ih]
            | some xs => rw [worthW_some hfw, worthW_some hfw, ih, hτ 0 _ (by decide), hτ 1 _ (by decide), hτ 2 _ (by decide)]
        exact this _
      rw [hww]
      rfl
  | succ k ih =>
    intro d π u m hd hlen hπ hs ht hτ hρ hu hY
    obtain ⟨d, rfl⟩ : ∃ e, d = e + 1 := ⟨d - 1, by omega⟩
    have hpl : π.length < σ 0 2 := by omega
    have hfw : ∀ w, w < σ 0 1 → WFo (saidS σ π w) := fun w hw => saidS_wf hσ ⟨by omega, hπ⟩ hw
    refine E_X1_goOn (ls := [vR 2 67, vR 8 1, vR 10 T, vI (nI π.length), vI u, vI (nI (digW π)), vU]) rfl rfl ?_
    repeat refine AW.s rfl ?_
    try dsimp only [List.set_cons_zero, List.set_cons_succ, Option.toList_some, Option.toList_none, List.cons_append, List.nil_append]
    rw [show m 1 8 = nI (σ 0 2) from hs.2.2.1]
    refine AW.b rfl (fun hc => ?_) (fun hc => ?_)
    · repeat refine AW.s rfl ?_
      try dsimp only [List.set_cons_zero, List.set_cons_succ, Option.toList_some, Option.toList_none, List.cons_append, List.nil_append]
      refine AW.b rfl (fun hc => ?_) (fun hc => ?_)
      · repeat refine AW.u 43 rfl rfl ?_
        try dsimp only [List.set_cons_zero, List.set_cons_succ, Option.toList_some, Option.toList_none, List.cons_append, List.nil_append]
        refine AW.loop (pc := 43) (σ := Unit) (σ 0 2) (fun i _ => [vR 2 67, vR 8 1, vR 10 T, vI (nI π.length), vI u, vI (nI (digW π)), vI (nI i)]) (fun i _ m1 => kbOf m1 = (((List.range i).flatMap (fun r => if r ∈ π then [] else cmpW (σ 0 2) k (π ++ [r]))).map (wayV σ τ)).foldl kbF (kbOf m) ∧ FrO T π.length m m1) (fun i _ m1 hi hm1 ihl => ?_) 0 () m (Nat.zero_le _) ⟨rfl, ⟨fun _ _ _ _ _ _ _ => rfl, fun _ _ => rfl⟩⟩
        obtain ⟨hkb, hfr⟩ := hm1
        have hs1 : RepS m1 1 σ := hs.fr hσ.2.1 (fun a h1 h2 => hfr.1 a (by omega) (by omega) (by omega) (by omega) (by omega) (by omega))
        repeat refine AW.s rfl ?_
        try dsimp only [List.set_cons_zero, List.set_cons_succ, Option.toList_some, Option.toList_none, List.cons_append, List.nil_append]
        rw [show m1 1 8 = nI (σ 0 2) from hs1.2.2.1]
        refine AW.b rfl (fun hc => ?_) (fun hc => ?_)
        · have hlt : i < σ 0 2 := (nI_ltI (by omega) (by omega)).mp hc
          have hbit := hu.getU (k := i) (by omega)
          have hrs : (List.range (i + 1)).flatMap (fun r => if r ∈ π then [] else cmpW (σ 0 2) k (π ++ [r])) = (List.range i).flatMap (fun r => if r ∈ π then [] else cmpW (σ 0 2) k (π ++ [r])) ++ (if i ∈ π then [] else cmpW (σ 0 2) k (π ++ [i])) := by
            rw [List.range_succ, List.flatMap_append]
            simp
          repeat refine AW.s rfl ?_
          try dsimp only [List.set_cons_zero, List.set_cons_succ, Option.toList_some, Option.toList_none, List.cons_append, List.nil_append]
          by_cases hin : i ∈ π
          · rw [hbit.1 hin]
            rw [if_pos hin, List.append_nil] at hrs
            refine AW.b rfl (fun hc => ?_) (fun hc => ?_)
            · exact absurd hc (by decide)
            · repeat refine AW.u 43 rfl rfl ?_
              try dsimp only [List.set_cons_zero, List.set_cons_succ, Option.toList_some, Option.toList_none, List.cons_append, List.nil_append]
              rw [nI_1]
              exact ihl () _ hlt ⟨by rw [hrs]; exact hkb, hfr⟩
          · rw [hbit.2 hin]
            rw [if_neg hin] at hrs
            refine AW.b rfl (fun hc => ?_) (fun hc => ?_)
            · repeat refine AW.s rfl ?_
              try dsimp only [List.set_cons_zero, List.set_cons_succ, Option.toList_some, Option.toList_none, List.cons_append, List.nil_append]
              have hρ1 : RepR (mUp m1 69 1 (nI π.length)) 69 π := by
                refine ⟨mUp_s _ _ _ _, fun j x hj => ?_⟩
                rw [mUp_a (by decide), hfr.2 j (List.getElem?_eq_some_iff.mp hj).1]
                exact hρ.2 j x hj
              refine AW.V k_1_61 ((c_push (r := i) hρ1 (by omega))) rfl rfl rfl rfl rfl rfl (fun r1 m2 hq => ?_)
              obtain ⟨rfl, hρ2, hf2⟩ := hq
              have hf2' : ∀ a, a ≠ 69 → a ≠ 70 → m2 a = m1 a := fun a h1 h2 => by rw [hf2 a h1 h2, mUp_a h1]
              repeat refine AW.s rfl ?_
              try dsimp only [List.set_cons_zero, List.set_cons_succ, Option.toList_some, Option.toList_none, List.cons_append, List.nil_append]
              rw [nI_1]
              refine AW.c rfl (vp_in_nI (by omega) (by decide)) ?_
              try dsimp only [List.set_cons_zero, List.set_cons_succ, Option.toList_some, Option.toList_none, List.cons_append, List.nil_append]
              rw [nI_clamp (by omega)]
              repeat refine AW.s rfl ?_
              try dsimp only [List.set_cons_zero, List.set_cons_succ, Option.toList_some, Option.toList_none, List.cons_append, List.nil_append]
              refine AW.c rfl (vp_in_nI (by omega) (by decide)) ?_
              try dsimp only [List.set_cons_zero, List.set_cons_succ, Option.toList_some, Option.toList_none, List.cons_append, List.nil_append]
              rw [nI_clamp (by omega)]
              repeat refine AW.s rfl ?_
              try dsimp only [List.set_cons_zero, List.set_cons_succ, Option.toList_some, Option.toList_none, List.cons_append, List.nil_append]
              have hs2 : RepS m2 1 σ := hs1.fr hσ.2.1 (fun a h1 h2 => hf2' a (by omega) (by omega))
              have hY2 : RepYs m2 (68 + 5 + 18 * π.length) (σ 0 1) (saidS σ π) := hY.fr h8 (fun a h1 h2 => by rw [hf2' a (by omega) (by omega)]; exact hfr.1 a (by omega) (by omega) (by omega) (by omega) (by omega) (by omega))
              refine AW.V k_1_65 ((c_becomeTurned (by omega) hs2 hσ hlt h8 hY2 hfw (by omega) (by omega))) rfl rfl rfl rfl rfl rfl (fun r1 m3 hq => ?_)
              obtain ⟨rfl, hY3, hf3⟩ := hq
              repeat refine AW.s rfl ?_
              try dsimp only [List.set_cons_zero, List.set_cons_succ, Option.toList_some, Option.toList_none, List.cons_append, List.nil_append]
              rw [nI_1, show nI (digW π) * 10 + nI i + 1 = nI (digW (π ++ [i])) by
                rw [digW_app, show nI (digW π) * 10 = nI (digW π * 10) from pk_mul _ 10, nI_add, nI_1]]
              have hsaid : (fun w => turnS σ i (saidS σ π w)) = saidS σ (π ++ [i]) := by
                funext w
                show _ = sayR σ (π ++ [i]) _
                rw [sayR_app]
                rfl
              rw [hsaid] at hY3
              have hlen1 : (π ++ [i]).length = π.length + 1 := by simp
              rw [← hlen1] at hY3 ⊢
              have hu3 : isBits (u ||| (1 <<< (nI i &&& 31))) (fun r => r ∈ π ++ [i]) := (hu.or (k := i) (by omega)).to (fun r => by simp)
              have hs3 : RepS m3 1 σ := hs2.fr hσ.2.1 (fun a h1 h2 => hf3 a (by omega))
              have hr3 : ∀ a, a = T + 1 ∨ a = T + 2 ∨ a = T + 3 ∨ a = T + 5 → m3 a = m a := by
                intro a ha
                rw [hf3 a (by omega), hf2' a (by omega) (by omega), hfr.1 a (by omega) (by omega) (by omega) (by omega) (by omega) (by omega)]
              have ht3 : TOK m3 T en := ht.fr (hr3 _ (by omega)) (hr3 _ (by omega)) (hr3 _ (by omega)) (hr3 _ (by omega))
              have hτ3 : ∀ p F, p < 3 → tellV m3 T en p F = τ p F := by
                intro p F hp
                rw [← hτ p F hp]
                unfold tellV
                rw [tval_eq ht hp (hr3 _ (by omega)) (hr3 _ (by omega)) (hr3 _ (by omega)) (fun _ _ => rfl)]
              refine AW.V k_1_44 ((ih d (π ++ [i]) _ m3 (by omega) (by rw [hlen1]; omega) (fun r hr => by rcases List.mem_append.mp hr with q | q; exact hπ r q; rw [List.mem_singleton.mp q]; exact hlt) hs3 ht3 hτ3 (hρ2.fr (hf3 69 (by omega)) (hf3 70 (by omega))) hu3 hY3)) rfl rfl rfl rfl rfl rfl (fun r1 m4 hq => ?_)
              obtain ⟨rfl, hkb4, hfr4⟩ := hq
              repeat refine AW.u 43 rfl rfl ?_
              try dsimp only [List.set_cons_zero, List.set_cons_succ, Option.toList_some, Option.toList_none, List.cons_append, List.nil_append]
              rw [nI_1]
              refine ihl () _ hlt ⟨?_, ⟨fun a h1 h2 h3 h4 h5 h6 => ?_, fun j hj => ?_⟩⟩
              · rw [hkb4, hrs, List.map_append, List.foldl_append, ← hkb]
                have : kbOf m3 = kbOf m1 := by unfold kbOf; rw [hf3 67 (by omega), hf2' 67 (by decide) (by decide)]
                rw [this]
              · rw [hfr4.1 a h1 h2 h3 h4 h5 (by rw [hlen1]; omega), hf3 a (by omega), hf2' a h2 h3]
                exact hfr.1 a h1 h2 h3 h4 h5 h6
              · rw [hfr4.2 j (by rw [hlen1]; omega), hf3 70 (by omega)]
                have hpx : (π ++ [i])[j]? = π[j]? := List.getElem?_append_left hj
                obtain ⟨x, hx⟩ : ∃ x, π[j]? = some x := ⟨_, List.getElem?_eq_getElem hj⟩
                rw [hρ2.2 j x (by rw [hpx]; exact hx), hρ.2 j x hx]
            · exact absurd rfl hc
        · have : i = σ 0 2 := by
            have : ¬ i < σ 0 2 := fun q => hc ((nI_ltI (by omega) (by omega)).mpr q)
            omega
          subst this
          exact AW.rv rfl rfl ⟨rfl, hkb, hfr⟩
      · exact absurd (nI_lt (b := 6) (by omega) (by decide)) hc
    · exact absurd (nI_lt hpl (by omega)) hc
end
section
-- ===== the class's small methods =====
def wB (v b : Int32) : Int32 := if v < 0 then 0 else if b < v then 0 else 1
theorem wB_nar (v b : Int32) : narrow .boolean (.int (wB v b)) = .int (wB v b) := by
  unfold wB
  split
  · rfl
  · split <;> rfl
theorem wB_01 (v b : Int32) : wB v b = 0 ∨ wB v b = 1 := by
  unfold wB
  split
  · exact Or.inl rfl
  · split
    · exact Or.inl rfl
    · exact Or.inr rfl
theorem wB_1 {v : Int32} {n : Nat} (hn : n < 2 ^ 31) : wB v (nI n) = 1 ↔ ∃ j, j ≤ n ∧ v = nI j := by
  unfold wB
  by_cases h0 : v < 0
  · rw [if_pos h0]
    exact ⟨fun h => absurd h (by decide), fun ⟨j, hj, e⟩ => by rw [e] at h0; exact absurd h0 (nI_pos (by omega))⟩
  · rw [if_neg h0]
    obtain ⟨j, hj, rfl⟩ := nI_of h0
    by_cases h1 : n < j
    · rw [if_pos (nI_lt h1 hj)]
      refine ⟨fun h => absurd h (by decide), fun ⟨q, hq, e⟩ => ?_⟩
      have := (nI_eq hj (by omega)).mp e
      omega
    · rw [if_neg (fun q => h1 ((nI_ltI hn hj).mp q))]
      exact ⟨fun _ => ⟨j, by omega, rfl⟩, fun _ => rfl⟩
theorem wB_0 {v b : Int32} (h : ¬ wB v b = 1) : wB v b = 0 := (wB_01 v b).elim id (fun q => absurd q h)
theorem c_isWithin {l : Launch} {X : XT} {d : Nat} {v b : Int32} {m : Mem} : Meth l X d M_X10_isWithin [vI v, vI b] m (fun r m' => r = some (vI (wB v b)) ∧ m' = m) := by
  refine E_X10_isWithin (ls := [vI v, vI b]) rfl rfl ?_
  repeat refine AW.s rfl ?_
  try dsimp only [List.set_cons_zero, List.set_cons_succ, Option.toList_some, Option.toList_none, List.cons_append, List.nil_append]
  refine AW.b rfl (fun hc => ?_) (fun hc => ?_)
  · have e1 := hc
    repeat refine AW.s rfl ?_
    try dsimp only [List.set_cons_zero, List.set_cons_succ, Option.toList_some, Option.toList_none, List.cons_append, List.nil_append]
    exact AW.ri rfl rfl rfl ⟨by unfold wB; rw [if_pos e1], rfl⟩
  · have e1 := hc
    repeat refine AW.s rfl ?_
    try dsimp only [List.set_cons_zero, List.set_cons_succ, Option.toList_some, Option.toList_none, List.cons_append, List.nil_append]
    refine AW.b rfl (fun hc => ?_) (fun hc => ?_)
    · have e2 := hc
      repeat refine AW.s rfl ?_
      try dsimp only [List.set_cons_zero, List.set_cons_succ, Option.toList_some, Option.toList_none, List.cons_append, List.nil_append]
      exact AW.ri rfl rfl rfl ⟨by unfold wB; rw [if_neg e1, if_pos e2], rfl⟩
    · have e2 := hc
      repeat refine AW.s rfl ?_
      try dsimp only [List.set_cons_zero, List.set_cons_succ, Option.toList_some, Option.toList_none, List.cons_append, List.nil_append]
      exact AW.ri rfl rfl rfl ⟨by unfold wB; rw [if_neg e1, if_neg e2], rfl⟩
theorem c_isSheet {l : Launch} {X : XT} {d : Nat} {v : Int32} {m : Mem} (hd : 1 ≤ d) : Meth l X d M_X10_isSheet [vI v] m (fun r m' => r = some (vI (wB v 3)) ∧ m' = m) := by
  obtain ⟨d, rfl⟩ : ∃ e, d = e + 1 := ⟨d - 1, by omega⟩
  refine E_X10_isSheet (ls := [vI v]) rfl rfl ?_
  repeat refine AW.s rfl ?_
  try dsimp only [List.set_cons_zero, List.set_cons_succ, Option.toList_some, Option.toList_none, List.cons_append, List.nil_append]
  refine AW.S k_10_113 (c_isWithin) rfl rfl rfl rfl (fun r1 m9 hq => ?_)
  obtain ⟨rfl, hm9⟩ := hq
  exact AW.ri rfl rfl (wB_nar _ _) ⟨rfl, hm9⟩
theorem c_isLetter {l : Launch} {X : XT} {d : Nat} {v : Int32} {m : Mem} (hd : 1 ≤ d) : Meth l X d M_X10_isLetter [vI v] m (fun r m' => r = some (vI (wB v 25)) ∧ m' = m) := by
  obtain ⟨d, rfl⟩ : ∃ e, d = e + 1 := ⟨d - 1, by omega⟩
  refine E_X10_isLetter (ls := [vI v]) rfl rfl ?_
  repeat refine AW.s rfl ?_
  try dsimp only [List.set_cons_zero, List.set_cons_succ, Option.toList_some, Option.toList_none, List.cons_append, List.nil_append]
  refine AW.S k_10_113 (c_isWithin) rfl rfl rfl rfl (fun r1 m9 hq => ?_)
  obtain ⟨rfl, hm9⟩ := hq
  exact AW.ri rfl rfl (wB_nar _ _) ⟨rfl, hm9⟩
def rB (k a b : Int32) : Int32 := if wB k 5 = 0 then 0 else if wB a 25 = 0 then 0 else if wB b 25 = 0 then 0 else 1
theorem c_isRule {l : Launch} {X : XT} {d : Nat} {k a b : Int32} {m : Mem} (hd : 2 ≤ d) : Meth l X d M_X10_isRule [vI k, vI a, vI b] m (fun r m' => r = some (vI (rB k a b)) ∧ m' = m) := by
  obtain ⟨d, rfl⟩ : ∃ e, d = e + 1 := ⟨d - 1, by omega⟩
  refine E_X10_isRule (ls := [vI k, vI a, vI b]) rfl rfl ?_
  repeat refine AW.s rfl ?_
  try dsimp only [List.set_cons_zero, List.set_cons_succ, Option.toList_some, Option.toList_none, List.cons_append, List.nil_append]
  refine AW.S k_10_113 (c_isWithin) rfl rfl rfl rfl (fun r1 m9 hq => ?_)
  obtain ⟨rfl, hm9⟩ := hq
  rw [hm9]
  try dsimp only [List.set_cons_zero, List.set_cons_succ, Option.toList_some, Option.toList_none, List.cons_append, List.nil_append]
  refine AW.b rfl (fun hc => ?_) (fun hc => ?_)
  · have e1 := hc
    repeat refine AW.s rfl ?_
    try dsimp only [List.set_cons_zero, List.set_cons_succ, Option.toList_some, Option.toList_none, List.cons_append, List.nil_append]
    exact AW.ri rfl rfl rfl ⟨by unfold rB; rw [if_pos e1], rfl⟩
  · have e1 := hc
    repeat refine AW.s rfl ?_
    try dsimp only [List.set_cons_zero, List.set_cons_succ, Option.toList_some, Option.toList_none, List.cons_append, List.nil_append]
    refine AW.S k_10_319 ((c_isLetter (by omega))) rfl rfl rfl rfl (fun r1 m8 hq => ?_)
    obtain ⟨rfl, hm8⟩ := hq
    rw [hm8]
    try dsimp only [List.set_cons_zero, List.set_cons_succ, Option.toList_some, Option.toList_none, List.cons_append, List.nil_append]
    refine AW.b rfl (fun hc => ?_) (fun hc => ?_)
    · have e2 := hc
      repeat refine AW.s rfl ?_
      try dsimp only [List.set_cons_zero, List.set_cons_succ, Option.toList_some, Option.toList_none, List.cons_append, List.nil_append]
      exact AW.ri rfl rfl rfl ⟨by unfold rB; rw [if_neg e1, if_pos e2], rfl⟩
    · have e2 := hc
      repeat refine AW.s rfl ?_
      try dsimp only [List.set_cons_zero, List.set_cons_succ, Option.toList_some, Option.toList_none, List.cons_append, List.nil_append]
      refine AW.S k_10_319 ((c_isLetter (by omega))) rfl rfl rfl rfl (fun r1 m7 hq => ?_)
      obtain ⟨rfl, hm7⟩ := hq
      rw [hm7]
      try dsimp only [List.set_cons_zero, List.set_cons_succ, Option.toList_some, Option.toList_none, List.cons_append, List.nil_append]
      refine AW.b rfl (fun hc => ?_) (fun hc => ?_)
      · have e3 := hc
        repeat refine AW.s rfl ?_
        try dsimp only [List.set_cons_zero, List.set_cons_succ, Option.toList_some, Option.toList_none, List.cons_append, List.nil_append]
        exact AW.ri rfl rfl rfl ⟨by unfold rB; rw [if_neg e1, if_neg e2, if_pos e3], rfl⟩
      · have e3 := hc
        repeat refine AW.s rfl ?_
        try dsimp only [List.set_cons_zero, List.set_cons_succ, Option.toList_some, Option.toList_none, List.cons_append, List.nil_append]
        exact AW.ri rfl rfl rfl ⟨by unfold rB; rw [if_neg e1, if_neg e2, if_neg e3], rfl⟩
def pB (k : Int32) : Int32 := if k < -1 then 0 else if k < 40 then 1 else 0
theorem c_isSaidPlace {l : Launch} {X : XT} {d : Nat} {k : Int32} {m : Mem} : Meth l X d M_X10_isSaidPlace [vI k] m (fun r m' => r = some (vI (pB k)) ∧ m' = m) := by
  refine E_X10_isSaidPlace (ls := [vI k]) rfl rfl ?_
  repeat refine AW.s rfl ?_
  try dsimp only [List.set_cons_zero, List.set_cons_succ, Option.toList_some, Option.toList_none, List.cons_append, List.nil_append]
  refine AW.b rfl (fun hc => ?_) (fun hc => ?_)
  · have e1 := hc
    repeat refine AW.s rfl ?_
    try dsimp only [List.set_cons_zero, List.set_cons_succ, Option.toList_some, Option.toList_none, List.cons_append, List.nil_append]
    exact AW.ri rfl rfl rfl ⟨by unfold pB; rw [if_pos e1], rfl⟩
  · have e1 := hc
    repeat refine AW.s rfl ?_
    try dsimp only [List.set_cons_zero, List.set_cons_succ, Option.toList_some, Option.toList_none, List.cons_append, List.nil_append]
    refine AW.b rfl (fun hc => ?_) (fun hc => ?_)
    · have e2 := hc
      repeat refine AW.s rfl ?_
      try dsimp only [List.set_cons_zero, List.set_cons_succ, Option.toList_some, Option.toList_none, List.cons_append, List.nil_append]
      exact AW.ri rfl rfl rfl ⟨by unfold pB; rw [if_neg e1, if_pos e2], rfl⟩
    · have e2 := hc
      repeat refine AW.s rfl ?_
      try dsimp only [List.set_cons_zero, List.set_cons_succ, Option.toList_some, Option.toList_none, List.cons_append, List.nil_append]
      exact AW.ri rfl rfl rfl ⟨by unfold pB; rw [if_neg e1, if_neg e2], rfl⟩
def hB (v : Int32) (n : Nat) : Int32 := if v < 0 then 0 else if v < nI n then 1 else 0
theorem hB_nar (v : Int32) (n : Nat) : narrow .boolean (.int (hB v n)) = .int (hB v n) := by
  unfold hB
  split
  · rfl
  · split <;> rfl
theorem hB_1 {v : Int32} {n : Nat} (hn : n < 2 ^ 31) : hB v n = 1 ↔ ∃ j, j < n ∧ v = nI j := by
  unfold hB
  by_cases h0 : v < 0
  · rw [if_pos h0]
    exact ⟨fun h => absurd h (by decide), fun ⟨j, hj, e⟩ => by rw [e] at h0; exact absurd h0 (nI_pos (by omega))⟩
  · rw [if_neg h0]
    obtain ⟨j, hj, rfl⟩ := nI_of h0
    by_cases h1 : j < n
    · rw [if_pos (nI_lt h1 hn)]
      exact ⟨fun _ => ⟨j, h1, rfl⟩, fun _ => rfl⟩
    · rw [if_neg (fun q => h1 ((nI_ltI hj hn).mp q))]
      refine ⟨fun h => absurd h (by decide), fun ⟨q, hq, e⟩ => ?_⟩
      have := (nI_eq hj (by omega)).mp e
      omega
theorem hB_0 {v : Int32} {n : Nat} (h : ¬ hB v n = 1) : hB v n = 0 := by
  unfold hB at h ⊢
  split
  · rfl
  · rename_i h0
    rw [if_neg h0] at h
    split
    · rename_i h1
      rw [if_pos h1] at h
      exact absurd rfl h
    · rfl
theorem c_hasWord {l : Launch} {X : XT} {d : Nat} {v : Int32} {m : Mem} {σ : Sg} (hs : RepS m 1 σ) : Meth l X d M_X7_hasWord [vR 8 1, vI v] m (fun r m' => r = some (vI (hB v (σ 0 1))) ∧ m' = m) := by
  refine E_X7_hasWord (ls := [vR 8 1, vI v]) rfl rfl ?_
  repeat refine AW.s rfl ?_
  try dsimp only [List.set_cons_zero, List.set_cons_succ, Option.toList_some, Option.toList_none, List.cons_append, List.nil_append]
  refine AW.b rfl (fun hc => ?_) (fun hc => ?_)
  · have e1 := hc
    repeat refine AW.s rfl ?_
    try dsimp only [List.set_cons_zero, List.set_cons_succ, Option.toList_some, Option.toList_none, List.cons_append, List.nil_append]
    exact AW.ri rfl rfl rfl ⟨by unfold hB; rw [if_pos e1], rfl⟩
  · have e1 := hc
    repeat refine AW.s rfl ?_
    try dsimp only [List.set_cons_zero, List.set_cons_succ, Option.toList_some, Option.toList_none, List.cons_append, List.nil_append]
    rw [show m 1 4 = nI (σ 0 1) from hs.2.1]
    refine AW.b rfl (fun hc => ?_) (fun hc => ?_)
    · have e2 := hc
      repeat refine AW.s rfl ?_
      try dsimp only [List.set_cons_zero, List.set_cons_succ, Option.toList_some, Option.toList_none, List.cons_append, List.nil_append]
      exact AW.ri rfl rfl rfl ⟨by unfold hB; rw [if_neg e1, if_pos e2], rfl⟩
    · have e2 := hc
      repeat refine AW.s rfl ?_
      try dsimp only [List.set_cons_zero, List.set_cons_succ, Option.toList_some, Option.toList_none, List.cons_append, List.nil_append]
      exact AW.ri rfl rfl rfl ⟨by unfold hB; rw [if_neg e1, if_neg e2], rfl⟩
theorem c_hasRule {l : Launch} {X : XT} {d : Nat} {v : Int32} {m : Mem} {σ : Sg} (hs : RepS m 1 σ) : Meth l X d M_X7_hasRule [vR 8 1, vI v] m (fun r m' => r = some (vI (hB v (σ 0 2))) ∧ m' = m) := by
  refine E_X7_hasRule (ls := [vR 8 1, vI v]) rfl rfl ?_
  repeat refine AW.s rfl ?_
  try dsimp only [List.set_cons_zero, List.set_cons_succ, Option.toList_some, Option.toList_none, List.cons_append, List.nil_append]
  refine AW.b rfl (fun hc => ?_) (fun hc => ?_)
  · have e1 := hc
    repeat refine AW.s rfl ?_
    try dsimp only [List.set_cons_zero, List.set_cons_succ, Option.toList_some, Option.toList_none, List.cons_append, List.nil_append]
    exact AW.ri rfl rfl rfl ⟨by unfold hB; rw [if_pos e1], rfl⟩
  · have e1 := hc
    repeat refine AW.s rfl ?_
    try dsimp only [List.set_cons_zero, List.set_cons_succ, Option.toList_some, Option.toList_none, List.cons_append, List.nil_append]
    rw [show m 1 8 = nI (σ 0 2) from hs.2.2.1]
    refine AW.b rfl (fun hc => ?_) (fun hc => ?_)
    · have e2 := hc
      repeat refine AW.s rfl ?_
      try dsimp only [List.set_cons_zero, List.set_cons_succ, Option.toList_some, Option.toList_none, List.cons_append, List.nil_append]
      exact AW.ri rfl rfl rfl ⟨by unfold hB; rw [if_neg e1, if_pos e2], rfl⟩
    · have e2 := hc
      repeat refine AW.s rfl ?_
      try dsimp only [List.set_cons_zero, List.set_cons_succ, Option.toList_some, Option.toList_none, List.cons_append, List.nil_append]
      exact AW.ri rfl rfl rfl ⟨by unfold hB; rw [if_neg e1, if_neg e2], rfl⟩
theorem c_isMissing {l : Launch} {X : XT} {d : Nat} {h : Nat} {m : Mem} : Meth l X d M_X6_isMissing [vR 7 h] m (fun r m' => r = some (vI (if m h 1 = -1 then 1 else 0)) ∧ m' = m) := by
  refine E_X6_isMissing (ls := [vR 7 h]) rfl rfl ?_
  repeat refine AW.s rfl ?_
  try dsimp only [List.set_cons_zero, List.set_cons_succ, Option.toList_some, Option.toList_none, List.cons_append, List.nil_append]
  refine AW.b rfl (fun hc => ?_) (fun hc => ?_)
  · have e1 := hc
    repeat refine AW.s rfl ?_
    try dsimp only [List.set_cons_zero, List.set_cons_succ, Option.toList_some, Option.toList_none, List.cons_append, List.nil_append]
    exact AW.ri rfl rfl rfl ⟨by rw [if_pos e1], rfl⟩
  · have e1 := hc
    repeat refine AW.s rfl ?_
    try dsimp only [List.set_cons_zero, List.set_cons_succ, Option.toList_some, Option.toList_none, List.cons_append, List.nil_append]
    exact AW.ri rfl rfl rfl ⟨by rw [if_neg e1], rfl⟩
theorem c_Sbecome {l : Launch} {X : XT} {d : Nat} {h : Nat} {s n : Int32} {m : Mem} : Meth l X d M_X6_become [vR 7 h, vI s, vI n] m (fun r m' => r = none ∧ m' h 1 = s ∧ m' h 2 = n ∧ (∀ k, k < 40 → m' (h + 1) k = 0) ∧ ∀ a, a ≠ h → a ≠ h + 1 → m' a = m a) := by
  refine E_X6_become (ls := [vR 7 h, vI s, vI n, vU]) rfl rfl ?_
  repeat refine AW.u 12 rfl rfl ?_
  try dsimp only [List.set_cons_zero, List.set_cons_succ, Option.toList_some, Option.toList_none, List.cons_append, List.nil_append]
  refine AW.loop (pc := 12) (σ := Unit) 40 (fun i _ => [vR 7 h, vI s, vI n, vI (nI i)]) (fun i _ m1 => m1 h 1 = s ∧ m1 h 2 = n ∧ (∀ k, k < i → m1 (h + 1) k = 0) ∧ ∀ a, a ≠ h → a ≠ h + 1 → m1 a = m a) (fun i _ m1 hi hm1 ih => ?_) 0 () _ (Nat.zero_le _) ⟨by rw [mUp_n (Or.inr (by decide)), mUp_s], mUp_s _ _ _ _, fun k hk => absurd hk (by omega), fun a h1 _ => by rw [mUp_a h1, mUp_a h1]⟩
  obtain ⟨q1, q2, q3, q4⟩ := hm1
  repeat refine AW.s rfl ?_
  try dsimp only [List.set_cons_zero, List.set_cons_succ, Option.toList_some, Option.toList_none, List.cons_append, List.nil_append]
  refine AW.b rfl (fun hc => ?_) (fun hc => ?_)
  · have hlt : i < 40 := (nI_ltI (b := 40) (by omega) (by decide)).mp hc
    repeat refine AW.s rfl ?_
    try dsimp only [List.set_cons_zero, List.set_cons_succ, Option.toList_some, Option.toList_none, List.cons_append, List.nil_append]
    refine AW.c rfl (⟨vp_in_nI (by omega) (by decide), fun q => absurd q (by decide)⟩) ?_
    try dsimp only [List.set_cons_zero, List.set_cons_succ, Option.toList_some, Option.toList_none, List.cons_append, List.nil_append]
    rw [nI_clamp (by omega)]
    repeat refine AW.u 12 rfl rfl ?_
    try dsimp only [List.set_cons_zero, List.set_cons_succ, Option.toList_some, Option.toList_none, List.cons_append, List.nil_append]
    rw [nI_1]
    refine ih () _ hlt ⟨by rw [mUp_a (by omega)]; exact q1, by rw [mUp_a (by omega)]; exact q2, fun k hk => ?_, fun a h1 h2 => by rw [mUp_a h2]; exact q4 a h1 h2⟩
    by_cases e : k = i
    · subst e; exact mUp_s _ _ _ _
    · rw [mUp_n (Or.inr e)]; exact q3 k (by omega)
  · have : i = 40 := by
      have : ¬ i < 40 := fun q => hc (nI_lt (b := 40) q (by decide))
      omega
    subst this
    exact AW.rv rfl rfl ⟨rfl, q1, q2, q3, q4⟩
theorem c_becomeSaying {l : Launch} {X : XT} {d : Nat} {h g : Nat} {m : Mem} {xs : List Nat} (hd : 1 ≤ d) (hy : RY m g (some xs)) (ho : WFo (some xs)) (hgh : g + 1 < h ∨ h + 1 < g) : Meth l X d M_X6_becomeSaying [vR 7 h, vR 5 g] m (fun r m' => r = none ∧ m' h 1 = 0 ∧ m' h 2 = nI xs.length ∧ (∀ k, k < 40 → m' (h + 1) k = (match xs[k]? with | some x => nI x | none => 0)) ∧ ∀ a, a ≠ h → a ≠ h + 1 → m' a = m a) := by
  obtain ⟨d, rfl⟩ : ∃ e, d = e + 1 := ⟨d - 1, by omega⟩
  obtain ⟨g1, g2, g3⟩ := ho xs rfl
  refine E_X6_becomeSaying (ls := [vR 7 h, vR 5 g]) rfl rfl ?_
  repeat refine AW.s rfl ?_
  try dsimp only [List.set_cons_zero, List.set_cons_succ, Option.toList_some, Option.toList_none, List.cons_append, List.nil_append]
  rw [hy.1]
  refine AW.V k_6_25 (c_Sbecome) rfl rfl rfl rfl rfl rfl (fun r1 m2 hq => ?_)
  obtain ⟨rfl, q1, q2, q3, q4⟩ := hq
  repeat refine AW.s rfl ?_
  try dsimp only [List.set_cons_zero, List.set_cons_succ, Option.toList_some, Option.toList_none, List.cons_append, List.nil_append]
  rw [q4 g (by omega) (by omega), hy.1]
  refine AW.cpy k_6_32 rfl rfl rfl rfl (by decide) (by decide) (nI_pos (by omega)) ?_ ?_ ?_
  · rw [nI_clamp (by omega)]; show 0 + xs.length ≤ 40; omega
  · rw [nI_clamp (by omega)]; show 0 + xs.length ≤ 40; omega
  rw [nI_clamp (by omega)]
  try dsimp only [List.set_cons_zero, List.set_cons_succ, Option.toList_some, Option.toList_none, List.cons_append, List.nil_append]
  refine AW.rv rfl rfl ⟨rfl, by rw [mSr_n (by omega)]; exact q1, by rw [mSr_n (by omega)]; exact q2, fun k hk => ?_, fun a h1 h2 => by rw [mSr_n h2]; exact q4 a h1 h2⟩
  rw [mSr_s, show (0 : Int32).toNatClampNeg = 0 from rfl]
  cases hx : xs[k]? with
  | some x =>
    have hk1 := (List.getElem?_eq_some_iff.mp hx).1
    rw [pk_cpy_in (Nat.zero_le _) (by omega), show 0 + (k - 0) = k by omega, q4 (g + 1) (by omega) (by omega)]
    exact hy.2 k x hx
  | none =>
    have hk1 : xs.length ≤ k := by
      rcases Nat.lt_or_ge k xs.length with q | q
      · rw [List.getElem?_eq_getElem q] at hx; cases hx
      · exact q
    rw [pk_cpy_out (Or.inr (by omega))]
    exact q3 k hk
theorem c_Shold {l : Launch} {X : XT} {d : Nat} {h : Nat} {i n : Int32} {m : Mem} : Meth l X d M_X6_holds [vR 7 h, vI i, vI n] m (fun r m' => r = some (vI (if i < 0 then 0 else if n < 0 then 0 else if m h 2 < i then 0 else if m h 2 - i < n then 0 else 1)) ∧ m' = m) := by
  refine E_X6_holds (ls := [vR 7 h, vI i, vI n]) rfl rfl ?_
  repeat refine AW.s rfl ?_
  try dsimp only [List.set_cons_zero, List.set_cons_succ, Option.toList_some, Option.toList_none, List.cons_append, List.nil_append]
  refine AW.b rfl (fun hc => ?_) (fun hc => ?_)
  · have e1 := hc
    repeat refine AW.s rfl ?_
    try dsimp only [List.set_cons_zero, List.set_cons_succ, Option.toList_some, Option.toList_none, List.cons_append, List.nil_append]
    exact AW.ri rfl rfl rfl ⟨by rw [if_pos e1], rfl⟩
  · have e1 := hc
    repeat refine AW.s rfl ?_
    try dsimp only [List.set_cons_zero, List.set_cons_succ, Option.toList_some, Option.toList_none, List.cons_append, List.nil_append]
    refine AW.b rfl (fun hc => ?_) (fun hc => ?_)
    · have e2 := hc
      repeat refine AW.s rfl ?_
      try dsimp only [List.set_cons_zero, List.set_cons_succ, Option.toList_some, Option.toList_none, List.cons_append, List.nil_append]
      exact AW.ri rfl rfl rfl ⟨by rw [if_neg e1, if_pos e2], rfl⟩
    · have e2 := hc
      repeat refine AW.s rfl ?_
      try dsimp only [List.set_cons_zero, List.set_cons_succ, Option.toList_some, Option.toList_none, List.cons_append, List.nil_append]
      refine AW.b rfl (fun hc => ?_) (fun hc => ?_)
      · have e3 := hc
        repeat refine AW.s rfl ?_
        try dsimp only [List.set_cons_zero, List.set_cons_succ, Option.toList_some, Option.toList_none, List.cons_append, List.nil_append]
        exact AW.ri rfl rfl rfl ⟨by rw [if_neg e1, if_neg e2, if_pos e3], rfl⟩
      · have e3 := hc
        repeat refine AW.s rfl ?_
        try dsimp only [List.set_cons_zero, List.set_cons_succ, Option.toList_some, Option.toList_none, List.cons_append, List.nil_append]
        refine AW.b rfl (fun hc => ?_) (fun hc => ?_)
        · have e4 := hc
          repeat refine AW.s rfl ?_
          try dsimp only [List.set_cons_zero, List.set_cons_succ, Option.toList_some, Option.toList_none, List.cons_append, List.nil_append]
          exact AW.ri rfl rfl rfl ⟨by rw [if_neg e1, if_neg e2, if_neg e3, if_pos e4], rfl⟩
        · have e4 := hc
          repeat refine AW.s rfl ?_
          try dsimp only [List.set_cons_zero, List.set_cons_succ, Option.toList_some, Option.toList_none, List.cons_append, List.nil_append]
          exact AW.ri rfl rfl rfl ⟨by rw [if_neg e1, if_neg e2, if_neg e3, if_neg e4], rfl⟩
/-- a sheet of n items tells just this saying -/
def telO (g : Nat → Int32) (n : Nat) (o : Option (List Nat)) : Prop := ∃ xs, o = some xs ∧ xs.length = n ∧ RLn g xs
theorem c_Stells {l : Launch} {X : XT} {d : Nat} {h g n : Nat} {m : Mem} {o : Option (List Nat)} (hd : 1 ≤ d) (hn : m h 2 = nI n) (hn40 : n ≤ 40) (hy : RY m g o) (ho : WFo o) : Meth l X d M_X6_tells [vR 7 h, vR 5 g] m (fun r m' => ∃ b : Bool, r = some (vI (if b then 1 else 0)) ∧ (b = true ↔ telO (m (h + 1)) n o) ∧ m' = m) := by
  obtain ⟨d, rfl⟩ : ∃ e, d = e + 1 := ⟨d - 1, by omega⟩
  refine E_X6_tells (ls := [vR 7 h, vR 5 g, vU]) rfl rfl ?_
  repeat refine AW.s rfl ?_
  try dsimp only [List.set_cons_zero, List.set_cons_succ, Option.toList_some, Option.toList_none, List.cons_append, List.nil_append]
  refine AW.V k_6_42 (c_isTooLong) rfl rfl rfl rfl rfl rfl (fun r1 m9 hq => ?_)
  obtain ⟨rfl, hm9⟩ := hq
  rw [hm9]
  try dsimp only [List.set_cons_zero, List.set_cons_succ, Option.toList_some, Option.toList_none, List.cons_append, List.nil_append]
  cases o with
  | none =>
    rw [if_pos (show m g 1 = -1 from hy)]
    refine AW.b rfl (fun hc => ?_) (fun hc => ?_)
    · exact absurd hc (by decide)
    · repeat refine AW.s rfl ?_
      try dsimp only [List.set_cons_zero, List.set_cons_succ, Option.toList_some, Option.toList_none, List.cons_append, List.nil_append]
      exact AW.ri rfl rfl rfl ⟨false, rfl, ⟨fun q => (by cases q), fun ⟨xs, e, _⟩ => (by cases e)⟩, rfl⟩
  | some xs =>
    obtain ⟨g1, g2, g3⟩ := ho xs rfl
    rw [if_neg (show ¬ m g 1 = -1 by rw [hy.1]; exact nI_m1 (by omega))]
    refine AW.b rfl (fun hc => ?_) (fun hc => ?_)
    · repeat refine AW.s rfl ?_
      try dsimp only [List.set_cons_zero, List.set_cons_succ, Option.toList_some, Option.toList_none, List.cons_append, List.nil_append]
      rw [hy.1, hn]
      refine AW.b rfl (fun hc => ?_) (fun hc => ?_)
      · have hlen : xs.length = n := (nI_eq (by omega) (by omega)).mp hc
        repeat refine AW.u 22 rfl rfl ?_
        try dsimp only [List.set_cons_zero, List.set_cons_succ, Option.toList_some, Option.toList_none, List.cons_append, List.nil_append]
        refine AW.loop (pc := 22) (σ := Unit) n (fun i _ => [vR 7 h, vR 5 g, vI (nI i)]) (fun i _ m1 => m1 = m ∧ ∀ k x, k < i → xs[k]? = some x → m (h + 1) k = nI x) (fun i _ m1 hi hm1 ih => ?_) 0 () m (Nat.zero_le _) ⟨rfl, fun k x hk => absurd hk (by omega)⟩
        obtain ⟨rfl, hall⟩ := hm1
        repeat refine AW.s rfl ?_
        try dsimp only [List.set_cons_zero, List.set_cons_succ, Option.toList_some, Option.toList_none, List.cons_append, List.nil_append]
        rw [hn]
        refine AW.b rfl (fun hc => ?_) (fun hc => ?_)
        · have hlt : i < n := (nI_ltI (by omega) (by omega)).mp hc
          obtain ⟨x, hx⟩ : ∃ x, xs[i]? = some x := ⟨_, List.getElem?_eq_getElem (by omega)⟩
          repeat refine AW.s rfl ?_
          try dsimp only [List.set_cons_zero, List.set_cons_succ, Option.toList_some, Option.toList_none, List.cons_append, List.nil_append]
          refine AW.c rfl (vp_in_nI (by omega) (by decide)) ?_
          try dsimp only [List.set_cons_zero, List.set_cons_succ, Option.toList_some, Option.toList_none, List.cons_append, List.nil_append]
          rw [nI_clamp (by omega)]
          repeat refine AW.s rfl ?_
          try dsimp only [List.set_cons_zero, List.set_cons_succ, Option.toList_some, Option.toList_none, List.cons_append, List.nil_append]
          refine AW.c rfl (vp_in_nI (by omega) (by decide)) ?_
          try dsimp only [List.set_cons_zero, List.set_cons_succ, Option.toList_some, Option.toList_none, List.cons_append, List.nil_append]
          rw [nI_clamp (by omega), hy.2 i x hx]
          refine AW.b rfl (fun hc => ?_) (fun hc => ?_)
          · have e := hc
            repeat refine AW.u 22 rfl rfl ?_
            try dsimp only [List.set_cons_zero, List.set_cons_succ, Option.toList_some, Option.toList_none, List.cons_append, List.nil_append]
            rw [nI_1]
            refine ih () _ hlt ⟨rfl, fun k y hk hky => ?_⟩
            by_cases e2 : k = i
            · subst e2; rw [hx] at hky; cases hky; exact e
            · exact hall k y (by omega) hky
          · have e := hc
            repeat refine AW.s rfl ?_
            try dsimp only [List.set_cons_zero, List.set_cons_succ, Option.toList_some, Option.toList_none, List.cons_append, List.nil_append]
            refine AW.ri rfl rfl rfl ⟨false, rfl, ⟨fun q => (by cases q), fun ⟨ys, e2, _, e4⟩ => ?_⟩, rfl⟩
            cases e2
            exact absurd (e4 i x hx) e
        · have : i = n := by
            have : ¬ i < n := fun q => hc ((nI_ltI (by omega) (by omega)).mpr q)
            omega
          subst this
          repeat refine AW.s rfl ?_
          try dsimp only [List.set_cons_zero, List.set_cons_succ, Option.toList_some, Option.toList_none, List.cons_append, List.nil_append]
          exact AW.ri rfl rfl rfl ⟨true, rfl, ⟨fun _ => ⟨xs, rfl, hlen, fun k x hk => hall k x (by have := (List.getElem?_eq_some_iff.mp hk).1; omega) hk⟩, fun _ => rfl⟩, rfl⟩
      · have hne := hc
        repeat refine AW.s rfl ?_
        try dsimp only [List.set_cons_zero, List.set_cons_succ, Option.toList_some, Option.toList_none, List.cons_append, List.nil_append]
        refine AW.ri rfl rfl rfl ⟨false, rfl, ⟨fun q => (by cases q), fun ⟨ys, e2, e3, _⟩ => ?_⟩, rfl⟩
        cases e2
        exact absurd (by rw [e3]) hne
    · exact absurd rfl hc
end
section
/-- what the class's questions leave alone -/
def FrC (m m' : Mem) : Prop := ∀ a, (a < 43 ∨ 235 ≤ a ∨ (199 ≤ a ∧ a < 235 ∧ (a - 199) % 6 ≠ 4)) → m' a = m a
theorem FrC.rf {m : Mem} : FrC m m := fun _ _ => rfl
theorem FrC.tr {m m' m'' : Mem} (h1 : FrC m m') (h2 : FrC m' m'') : FrC m m'' := fun a ha => by rw [h2 a ha, h1 a ha]
theorem RepS.C {m m' : Mem} {σ : Sg} (h : RepS m 1 σ) (hσ : WF σ) (hf : FrC m m') : RepS m' 1 σ := h.fr hσ.2.1 (fun a _ h2 => hf a (Or.inl (by omega)))
theorem TOK.C {m m' : Mem} {t : Nat} {en : Nat → Nat} (h : TOK m (199 + 6 * t) en) (ht : t < 6) (hf : FrC m m') : TOK m' (199 + 6 * t) en := h.fr (hf _ (by omega)) (hf _ (by omega)) (hf _ (by omega)) (hf _ (by omega))
theorem tellV_C {m m' : Mem} {t : Nat} {en : Nat → Nat} (h : TOK m (199 + 6 * t) en) (ht : t < 6) (hf : FrC m m') {p : Nat} (hp : p < 3) (F : Nat → Int32) : tellV m' (199 + 6 * t) en p F = tellV m (199 + 6 * t) en p F := by
  unfold tellV
  rw [tval_eq h hp (hf _ (by omega)) (hf _ (by omega)) (hf _ (by omega)) (fun _ _ => rfl)]
theorem c_law {l : Launch} {X : XT} {d : Nat} {m : Mem} {σ : Sg} (hs : RepS m 1 σ) (hσ : WF σ) : Meth l X d M_X10_law [vR 11 0] m (fun r m' => r = some (vR 10 (199 + 6 * σ 0 4)) ∧ m' = m) := by
  have hl6 : σ 0 4 < 6 := hσ.2.2.2.2.1
  refine E_X10_law (ls := [vR 11 0]) rfl rfl ?_
  repeat refine AW.s rfl ?_
  try dsimp only [List.set_cons_zero, List.set_cons_succ, Option.toList_some, Option.toList_none, List.cons_append, List.nil_append]
  rw [show m (0 + 1) 10 = nI (σ 0 4) from hs.2.2.2.1]
  refine AW.c rfl (vp_in_nI (by omega) (by decide)) ?_
  try dsimp only [List.set_cons_zero, List.set_cons_succ, Option.toList_some, Option.toList_none, List.cons_append, List.nil_append]
  rw [nI_clamp (by omega)]
  exact AW.ra rfl rfl (Or.inl ⟨_, rfl⟩) ⟨rfl, rfl⟩
theorem worthW_ext {σ : Sg} {rw : List Nat} {n : Nat} {f : Nat → Option (List Nat)} {τ τ' : Nat → (Nat → Int32) → Int32} (h : ∀ p, p < 3 → ∀ F, τ' p F = τ p F) (w : Nat) : worthW σ rw n f τ' w = worthW σ rw n f τ w := by
  induction w with
  | zero => rw [worthW, worthW]
  | succ w ih =>
    cases hfw : f w with
    | none => rw [worthW_none hfw, worthW_none hfw, ih]
    | some xs => rw [worthW_some hfw, worthW_some hfw, ih, h 0 (by decide), h 1 (by decide), h 2 (by decide)]
theorem c_worthBy {l : Launch} {X : XT} {d : Nat} {ρ : Nat} {en : Nat → Nat} {m : Mem} {σ : Sg} {rw : List Nat} (hd : 5 ≤ d) (hs : RepS m 1 σ) (hσ : WF σ) (hrw : WFr σ rw) (hρ : RepR m ρ rw) (ht : TOK m (199 + 6 * σ 0 4) en) (hρ1 : ρ + 1 < 43 ∨ 60 < ρ) (hρ2 : ρ + 1 < 65) : Meth l X d M_X10_worthBy [vR 11 0, vR 4 ρ] m (fun r m' => r = some (vI (worthW σ rw (σ 0 1) (saidS σ rw) (tellV m (199 + 6 * σ 0 4) en) (σ 0 1))) ∧ FrC m m') := by
  obtain ⟨d, rfl⟩ : ∃ e, d = e + 1 := ⟨d - 1, by omega⟩
  have hl6 : σ 0 4 < 6 := hσ.2.2.2.2.1
  refine E_X10_worthBy (ls := [vR 11 0, vR 4 ρ]) rfl rfl ?_
  repeat refine AW.s rfl ?_
  try dsimp only [List.set_cons_zero, List.set_cons_succ, Option.toList_some, Option.toList_none, List.cons_append, List.nil_append]
  refine AW.V k_10_210 ((c_sayAll (H := 43) (ρ := ρ) (rw := rw) (by omega) hs hσ hrw hρ (by decide) (by omega))) rfl rfl rfl rfl rfl rfl (fun r1 m1 hq => ?_)
  obtain ⟨rfl, hY, hf1⟩ := hq
  have fc1 : FrC m m1 := fun a ha => hf1 a (by omega)
  repeat refine AW.s rfl ?_
  try dsimp only [List.set_cons_zero, List.set_cons_succ, Option.toList_some, Option.toList_none, List.cons_append, List.nil_append]
  refine AW.V k_10_231 ((c_law (hs.C hσ fc1) hσ)) rfl rfl rfl rfl rfl rfl (fun r1 m2 hq => ?_)
  obtain ⟨rfl, hm2⟩ := hq
  rw [hm2]
  repeat refine AW.s rfl ?_
  try dsimp only [List.set_cons_zero, List.set_cons_succ, Option.toList_some, Option.toList_none, List.cons_append, List.nil_append]
  refine AW.V k_10_264 ((c_worth (J := 65) (ρ := ρ) (H := 43) (rw := rw) (n := σ 0 1) (by omega) (hs.C hσ fc1) hσ hrw (hρ.fr (hf1 _ (by omega)) (hf1 _ (by omega))) (ht.C hl6 fc1) (Nat.le_refl _) hY (fun w hw => saidS_wf hσ hrw hw) (by decide) (by decide) (by omega) (by omega) (by omega) (by omega) (by omega))) rfl rfl rfl rfl rfl rfl (fun r1 m3 hq => ?_)
  obtain ⟨rfl, hf3⟩ := hq
  have hww := worthW_ext (σ := σ) (rw := rw) (n := σ 0 1) (f := saidS σ rw) (fun p hp F => tellV_C ht hl6 fc1 hp F) (σ 0 1)
  try dsimp only [List.set_cons_zero, List.set_cons_succ, Option.toList_some, Option.toList_none, List.cons_append, List.nil_append]
  rw [hww]
  exact AW.ri rfl rfl rfl ⟨rfl, fc1.tr (fun a ha => hf3 a (by omega) (by omega))⟩
/-- a rule that turns all words into what they are -/
def idleP (σ : Sg) (r : Nat) : Prop := ∀ w, w < σ 0 1 → turnS σ r (some (wl σ w)) = some (wl σ w)
theorem c_isIdle {l : Launch} {X : XT} {d : Nat} {r : Nat} {m : Mem} {σ : Sg} (hd : 4 ≤ d) (hs : RepS m 1 σ) (hσ : WF σ) (hr : r < σ 0 2) : Meth l X d M_X10_isIdle [vR 11 0, vI (nI r)] m (fun r1 m' => ∃ b : Bool, r1 = some (vI (if b then 1 else 0)) ∧ (b = true ↔ idleP σ r) ∧ FrC m m') := by
  obtain ⟨d, rfl⟩ : ∃ e, d = e + 1 := ⟨d - 1, by omega⟩
  have h8 := hσ.2.1
  refine E_X10_isIdle (ls := [vR 11 0, vI (nI r), vU]) rfl rfl ?_
  repeat refine AW.u 2 rfl rfl ?_
  try dsimp only [List.set_cons_zero, List.set_cons_succ, Option.toList_some, Option.toList_none, List.cons_append, List.nil_append]
  refine AW.loop (pc := 2) (σ := Unit) (σ 0 1) (fun i _ => [vR 11 0, vI (nI r), vI (nI i)]) (fun i _ m1 => FrC m m1 ∧ ∀ w, w < i → turnS σ r (some (wl σ w)) = some (wl σ w)) (fun i _ m1 hi hm1 ih => ?_) 0 () m (Nat.zero_le _) ⟨FrC.rf, fun w hw => absurd hw (by omega)⟩
  obtain ⟨hf, hall⟩ := hm1
  have hs1 := hs.C hσ hf
  repeat refine AW.s rfl ?_
  try dsimp only [List.set_cons_zero, List.set_cons_succ, Option.toList_some, Option.toList_none, List.cons_append, List.nil_append]
  rw [show m1 (0 + 1) 4 = nI (σ 0 1) from hs1.2.1]
  refine AW.b rfl (fun hc => ?_) (fun hc => ?_)
  · have hlt : i < σ 0 1 := (nI_ltI (by omega) (by omega)).mp hc
    repeat refine AW.s rfl ?_
    try dsimp only [List.set_cons_zero, List.set_cons_succ, Option.toList_some, Option.toList_none, List.cons_append, List.nil_append]
    refine AW.V k_10_193 ((c_sayByOne (by omega) hs1 hσ hr hlt (by decide))) rfl rfl rfl rfl rfl rfl (fun r1 m2 hq => ?_)
    obtain ⟨rfl, p1, p2⟩ := hq
    have fc2 : FrC m1 m2 := fun a ha => p2 a (by omega) (by omega)
    repeat refine AW.s rfl ?_
    try dsimp only [List.set_cons_zero, List.set_cons_succ, Option.toList_some, Option.toList_none, List.cons_append, List.nil_append]
    refine AW.V k_10_347 ((c_isWord (hs1.C hσ fc2) hσ hlt p1 (turnS_wf hσ hr (wl_wf hσ hlt)))) rfl rfl rfl rfl rfl rfl (fun r1 m3 hq => ?_)
    obtain ⟨rfl, hm3⟩ := hq
    rw [hm3]
    try dsimp only [List.set_cons_zero, List.set_cons_succ, Option.toList_some, Option.toList_none, List.cons_append, List.nil_append]
    by_cases q : turnS σ r (some (wl σ i)) = some (wl σ i)
    · rw [if_pos q]
      refine AW.b rfl (fun hc => ?_) (fun hc => ?_)
      · exact absurd hc (by decide)
      · repeat refine AW.u 2 rfl rfl ?_
        try dsimp only [List.set_cons_zero, List.set_cons_succ, Option.toList_some, Option.toList_none, List.cons_append, List.nil_append]
        rw [nI_1]
        refine ih () _ hlt ⟨hf.tr fc2, fun w hw => ?_⟩
        by_cases e : w = i
        · subst e; exact q
        · exact hall w (by omega)
    · rw [if_neg q]
      refine AW.b rfl (fun hc => ?_) (fun hc => ?_)
      · repeat refine AW.s rfl ?_
        try dsimp only [List.set_cons_zero, List.set_cons_succ, Option.toList_some, Option.toList_none, List.cons_append, List.nil_append]
        exact AW.ri rfl rfl rfl ⟨false, rfl, ⟨fun z => (by cases z), fun z => absurd (z i hlt) q⟩, hf.tr fc2⟩
      · exact absurd rfl hc
  · have : i = σ 0 1 := by
      have : ¬ i < σ 0 1 := fun q => hc ((nI_ltI (by omega) (by omega)).mpr q)
      omega
    subst this
    repeat refine AW.s rfl ?_
    try dsimp only [List.set_cons_zero, List.set_cons_succ, Option.toList_some, Option.toList_none, List.cons_append, List.nil_append]
    exact AW.ri rfl rfl rfl ⟨true, rfl, ⟨fun _ => hall, fun _ => rfl⟩, hf⟩
theorem c_idleRules {l : Launch} {X : XT} {d : Nat} {m : Mem} {σ : Sg} (hd : 5 ≤ d) (hs : RepS m 1 σ) (hσ : WF σ) : Meth l X d M_X10_idleRules [vR 11 0] m (fun r1 m' => ∃ x, r1 = some (vI x) ∧ isBits x (fun r => r < σ 0 2 ∧ idleP σ r) ∧ FrC m m') := by
  obtain ⟨d, rfl⟩ : ∃ e, d = e + 1 := ⟨d - 1, by omega⟩
  have h6 := hσ.2.2.1
  refine E_X10_idleRules (ls := [vR 11 0, vU, vU]) rfl rfl ?_
  repeat refine AW.u 4 rfl rfl ?_
  try dsimp only [List.set_cons_zero, List.set_cons_succ, Option.toList_some, Option.toList_none, List.cons_append, List.nil_append]
  refine AW.loop (pc := 4) (σ := Int32) (σ 0 2) (fun i x => [vR 11 0, vI x, vI (nI i)]) (fun i x m1 => FrC m m1 ∧ isBits x (fun r => r < i ∧ idleP σ r)) (fun i x m1 hi hm1 ih => ?_) 0 0 m (Nat.zero_le _) ⟨FrC.rf, isBits.zero.to (fun b => ⟨fun q => absurd q id, fun q => absurd q.1 (by omega)⟩)⟩
  obtain ⟨hf, hb⟩ := hm1
  have hs1 := hs.C hσ hf
  repeat refine AW.s rfl ?_
  try dsimp only [List.set_cons_zero, List.set_cons_succ, Option.toList_some, Option.toList_none, List.cons_append, List.nil_append]
  rw [show m1 (0 + 1) 8 = nI (σ 0 2) from hs1.2.2.1]
  refine AW.b rfl (fun hc => ?_) (fun hc => ?_)
  · have hlt : i < σ 0 2 := (nI_ltI (by omega) (by omega)).mp hc
    repeat refine AW.s rfl ?_
    try dsimp only [List.set_cons_zero, List.set_cons_succ, Option.toList_some, Option.toList_none, List.cons_append, List.nil_append]
    refine AW.V k_10_362 ((c_isIdle (by omega) hs1 hσ hlt)) rfl rfl rfl rfl rfl rfl (fun r1 m2 hq => ?_)
    obtain ⟨b, rfl, hbb, fc2⟩ := hq
    try dsimp only [List.set_cons_zero, List.set_cons_succ, Option.toList_some, Option.toList_none, List.cons_append, List.nil_append]
    cases b with
    | false =>
      refine AW.b rfl (fun hc => ?_) (fun hc => ?_)
      · repeat refine AW.u 4 rfl rfl ?_
        try dsimp only [List.set_cons_zero, List.set_cons_succ, Option.toList_some, Option.toList_none, List.cons_append, List.nil_append]
        rw [nI_1]
        refine ih _ _ hlt ⟨hf.tr fc2, hb.to (fun r => ⟨fun q => ⟨by omega, q.2⟩, fun q => ?_⟩)⟩
        by_cases e : r = i
        · subst e; exact absurd (hbb.mpr q.2) (by decide)
        · exact ⟨by omega, q.2⟩
      · exact absurd rfl hc
    | true =>
      refine AW.b rfl (fun hc => ?_) (fun hc => ?_)
      · exact absurd hc (by decide)
      · repeat refine AW.u 4 rfl rfl ?_
        try dsimp only [List.set_cons_zero, List.set_cons_succ, Option.toList_some, Option.toList_none, List.cons_append, List.nil_append]
        rw [nI_1]
        refine ih _ _ hlt ⟨hf.tr fc2, (hb.or (k := i) (by omega)).to (fun r => ⟨fun q => ?_, fun q => ?_⟩)⟩
        · rcases q with q | rfl
          · exact ⟨by omega, q.2⟩
          · exact ⟨by omega, hbb.mp rfl⟩
        · by_cases e : r = i
          · exact Or.inr e
          · exact Or.inl ⟨by omega, q.2⟩
  · have : i = σ 0 2 := by
      have : ¬ i < σ 0 2 := fun q => hc ((nI_ltI (by omega) (by omega)).mpr q)
      omega
    subst this
    repeat refine AW.s rfl ?_
    try dsimp only [List.set_cons_zero, List.set_cons_succ, Option.toList_some, Option.toList_none, List.cons_append, List.nil_append]
    exact AW.ri rfl rfl rfl ⟨_, rfl, hb, hf⟩
/-- the least n from there on that brings a word round, f tries left -/
def rndF (σ : Sg) (w : Nat) (f n : Nat) (o : Option (List Nat)) : Int32 := match f with
  | 0 => -1
  | f + 1 => if sayR σ (rowL σ) o = some (wl σ w) then nI n else rndF σ w f (n + 1) (sayR σ (rowL σ) o)
/-- too long, or longer than L -/
def lngO (L : Nat) (o : Option (List Nat)) : Prop := ∀ xs, o = some xs → L < xs.length
theorem turnS_lng {σ : Sg} {r L : Nat} {o : Option (List Nat)} (ho : WFo o) (h : lngO L o) : lngO L (turnS σ r o) := by
  intro ys e
  cases o with
  | none => cases e
  | some xs =>
    have := (turnL_len (ho xs rfl).2.2 e).1
    have := h xs rfl
    omega
theorem sayR_lng {σ : Sg} (hσ : WF σ) {L : Nat} (rw : List Nat) : (∀ r ∈ rw, r < σ 0 2) → ∀ {o : Option (List Nat)}, WFo o → lngO L o → lngO L (sayR σ rw o) := by
  induction rw with
  | nil => intro _ o _ h; exact h
  | cons a r ih => intro hr o ho h; exact ih (fun q hq => hr q (List.mem_cons_of_mem _ hq)) (turnS_wf hσ (hr a List.mem_cons_self) ho) (turnS_lng ho h)
theorem rndF_lng {σ : Sg} (hσ : WF σ) {w : Nat} (f : Nat) : ∀ (n : Nat) {o : Option (List Nat)}, WFo o → lngO (σ 1 w) o → rndF σ w f n o = -1 := by
  induction f with
  | zero => intro n o _ _; rfl
  | succ f ih =>
    intro n o ho h
    have h2 := sayR_lng hσ (rowL σ) (rowL_wf hσ).2 ho h
    have hne : ¬ sayR σ (rowL σ) o = some (wl σ w) := by
      intro e
      have := h2 _ e
      rw [wl_len] at this
      omega
    show (if sayR σ (rowL σ) o = some (wl σ w) then nI n else rndF σ w f (n + 1) (sayR σ (rowL σ) o)) = -1
    rw [if_neg hne]
    exact ih (n + 1) (sayR_wf hσ _ (rowL_wf hσ).2 ho) h2
theorem sayR_ge {σ : Sg} (hσ : WF σ) {L : Nat} (rw : List Nat) : (∀ r ∈ rw, r < σ 0 2) → ∀ {o : Option (List Nat)}, WFo o → (∀ xs, o = some xs → L ≤ xs.length) → ∀ ys, sayR σ rw o = some ys → L ≤ ys.length := by
  induction rw with
  | nil => intro _ o _ h ys e; exact h ys e
  | cons a r ih =>
    intro hr o ho h
    refine ih (fun q hq => hr q (List.mem_cons_of_mem _ hq)) (turnS_wf hσ (hr a List.mem_cons_self) ho) (fun xs e => ?_)
    cases o with
    | none => cases e
    | some zs =>
      have := (turnL_len (ho zs rfl).2.2 e).1
      have := h zs rfl
      omega
theorem c_roundOf {l : Launch} {X : XT} {d : Nat} {w : Nat} {m : Mem} {σ : Sg} (hd : 4 ≤ d) (hs : RepS m 1 σ) (hσ : WF σ) (hw : w < σ 0 1) : Meth l X d M_X10_roundOf [vR 11 0, vI (nI w)] m (fun r1 m' => r1 = some (vI (rndF σ w 60 1 (some (wl σ w)))) ∧ FrC m m') := by
  obtain ⟨d, rfl⟩ : ∃ e, d = e + 1 := ⟨d - 1, by omega⟩
  have hw8 : w < 8 := Nat.lt_of_lt_of_le hw hσ.2.1
  obtain ⟨z1, z2, -⟩ := hσ.2.2.2.2.2.1 w hw
  refine E_X10_roundOf (ls := [vR 11 0, vI (nI w), vU]) rfl rfl ?_
  repeat refine AW.s rfl ?_
  try dsimp only [List.set_cons_zero, List.set_cons_succ, Option.toList_some, Option.toList_none, List.cons_append, List.nil_append]
  refine AW.V k_10_340 ((c_begin (h := 61) (by omega) hs hσ hw (by decide))) rfl rfl rfl rfl rfl rfl (fun r1 m1 hq => ?_)
  obtain ⟨rfl, p1, p2⟩ := hq
  have fc1 : FrC m m1 := fun a ha => p2 a (by omega) (by omega)
  repeat refine AW.u 14 rfl rfl ?_
  try dsimp only [List.set_cons_zero, List.set_cons_succ, Option.toList_some, Option.toList_none, List.cons_append, List.nil_append]
  refine AW.loop (pc := 14) (σ := Option (List Nat)) 60 (fun i _ => [vR 11 0, vI (nI w), vI (nI (i + 1))]) (fun i o m2 => FrC m m2 ∧ RY m2 61 o ∧ WFo o ∧ (∃ xs, o = some xs ∧ xs.length = σ 1 w) ∧ rndF σ w 60 1 (some (wl σ w)) = rndF σ w (60 - i) (i + 1) o) (fun i o m2 hi hm2 ih => ?_) 0 (some (wl σ w)) m1 (Nat.zero_le _) ⟨fc1, p1, wl_wf hσ hw, ⟨_, rfl, wl_len⟩, rfl⟩
  obtain ⟨hf, hy, ho, ⟨xs, rfl, hxl⟩, hrnd⟩ := hm2
  have hs2 := hs.C hσ hf
  repeat refine AW.s rfl ?_
  try dsimp only [List.set_cons_zero, List.set_cons_succ, Option.toList_some, Option.toList_none, List.cons_append, List.nil_append]
  refine AW.b rfl (fun hc => ?_) (fun hc => ?_)
  · have hge : 60 < i + 1 := (nI_ltI (a := 60) (by decide) (by omega)).mp hc
    repeat refine AW.s rfl ?_
    try dsimp only [List.set_cons_zero, List.set_cons_succ, Option.toList_some, Option.toList_none, List.cons_append, List.nil_append]
    have : i = 60 := by omega
    subst this
    refine AW.ri rfl rfl rfl ⟨?_, hf⟩
    rw [hrnd]
    rfl
  · have hlt : i < 60 := by
      have : ¬ 60 < i + 1 := fun q => hc (nI_lt (a := 60) q (by omega))
      omega
    obtain ⟨f, hff⟩ : ∃ f, 60 - i = f + 1 := ⟨60 - i - 1, by omega⟩
    rw [hff] at hrnd
    have hrnd : rndF σ w 60 1 (some (wl σ w)) = if sayR σ (rowL σ) (some xs) = some (wl σ w) then nI (i + 1) else rndF σ w f (i + 1 + 1) (sayR σ (rowL σ) (some xs)) := hrnd
    have hwf2 : WFo (sayR σ (rowL σ) (some xs)) := sayR_wf hσ _ (rowL_wf hσ).2 ho
    have hge2 := sayR_ge hσ (L := σ 1 w) (rowL σ) (rowL_wf hσ).2 ho (fun ys e => by cases e; omega)
    repeat refine AW.s rfl ?_
    try dsimp only [List.set_cons_zero, List.set_cons_succ, Option.toList_some, Option.toList_none, List.cons_append, List.nil_append]
    refine AW.V k_10_344 ((c_turnByRow (ρ := 16) (by omega) hs2 hσ (rowL_wf hσ) hs2.row (by decide) (by decide) hy ho)) rfl rfl rfl rfl rfl rfl (fun r1 m3 hq => ?_)
    obtain ⟨rfl, p3, p4⟩ := hq
    have fc3 : FrC m2 m3 := fun a ha => p4 a (by omega) (by omega)
    have hs3 := hs2.C hσ fc3
    have hzz : m3 (0 + 1 + 10) w = nI (σ 1 w) := (hs3.2.2.2.2.1 w hw).1
    repeat refine AW.s rfl ?_
    try dsimp only [List.set_cons_zero, List.set_cons_succ, Option.toList_some, Option.toList_none, List.cons_append, List.nil_append]
    refine AW.c rfl (vp_in_nI (by omega) (by decide)) ?_
    try dsimp only [List.set_cons_zero, List.set_cons_succ, Option.toList_some, Option.toList_none, List.cons_append, List.nil_append]
    rw [nI_clamp (by omega), hzz]
    have hexit : lngO (σ 1 w) (sayR σ (rowL σ) (some xs)) → rndF σ w 60 1 (some (wl σ w)) = -1 := by
      intro hl
      rw [hrnd, if_neg (fun e => by have := hl _ e; rw [wl_len] at this; omega)]
      exact rndF_lng hσ f _ hwf2 hl
    cases hoo : sayR σ (rowL σ) (some xs) with
    | none =>
      rw [hoo] at p3 hexit
      rw [show m3 (0 + 61) 1 = -1 from p3]
      refine AW.b rfl (fun hc => ?_) (fun hc => ?_)
      · exact absurd hc.symm (nI_m1 (by omega))
      · repeat refine AW.s rfl ?_
        try dsimp only [List.set_cons_zero, List.set_cons_succ, Option.toList_some, Option.toList_none, List.cons_append, List.nil_append]
        exact AW.ri rfl rfl rfl ⟨by rw [hexit (fun ys e => by cases e)], hf.tr fc3⟩
    | some ys =>
      rw [hoo] at p3 hexit hwf2
      obtain ⟨a1, a2, a3⟩ := hwf2 ys rfl
      have hyl := hge2 ys hoo
      rw [show m3 (0 + 61) 1 = nI ys.length from p3.1]
      refine AW.b rfl (fun hc => ?_) (fun hc => ?_)
      · have hlen : ys.length = σ 1 w := (nI_eq (by omega) (by omega)).mp hc
        repeat refine AW.s rfl ?_
        try dsimp only [List.set_cons_zero, List.set_cons_succ, Option.toList_some, Option.toList_none, List.cons_append, List.nil_append]
        refine AW.V k_10_347 ((c_isWord hs3 hσ hw p3 hwf2)) rfl rfl rfl rfl rfl rfl (fun r1 m4 hq => ?_)
        obtain ⟨rfl, hm4⟩ := hq
        rw [hm4]
        try dsimp only [List.set_cons_zero, List.set_cons_succ, Option.toList_some, Option.toList_none, List.cons_append, List.nil_append]
        rw [hoo] at hrnd
        by_cases q : some ys = some (wl σ w)
        · rw [if_pos q]
          rw [if_pos q] at hrnd
          refine AW.b rfl (fun hc => ?_) (fun hc => ?_)
          · exact absurd hc (by decide)
          · repeat refine AW.s rfl ?_
            try dsimp only [List.set_cons_zero, List.set_cons_succ, Option.toList_some, Option.toList_none, List.cons_append, List.nil_append]
            exact AW.ri rfl rfl rfl ⟨by rw [hrnd], hf.tr fc3⟩
        · rw [if_neg q]
          rw [if_neg q] at hrnd
          refine AW.b rfl (fun hc => ?_) (fun hc => ?_)
          · repeat refine AW.u 14 rfl rfl ?_
            try dsimp only [List.set_cons_zero, List.set_cons_succ, Option.toList_some, Option.toList_none, List.cons_append, List.nil_append]
            rw [nI_1]
            exact ih (some ys) _ hlt ⟨hf.tr fc3, p3, hwf2, ⟨ys, rfl, hlen⟩, by rw [hrnd, show 60 - (i + 1) = f by omega]⟩
          · exact absurd rfl hc
      · have hne : ¬ ys.length = σ 1 w := fun q => hc (by rw [q])
        repeat refine AW.s rfl ?_
        try dsimp only [List.set_cons_zero, List.set_cons_succ, Option.toList_some, Option.toList_none, List.cons_append, List.nil_append]
        exact AW.ri rfl rfl rfl ⟨by rw [hexit (fun zs e => by cases e; omega)], hf.tr fc3⟩
end
section
theorem c_wordsSaidAs {l : Launch} {X : XT} {d : Nat} {h n : Nat} {m : Mem} {σ : Sg} (hd : 5 ≤ d) (hs : RepS m 1 σ) (hσ : WF σ) (hh : 235 ≤ h) (hn : m h 2 = nI n) (hn40 : n ≤ 40) : Meth l X d M_X10_wordsSaidAs [vR 11 0, vR 7 h] m (fun r1 m' => ∃ x, r1 = some (vI x) ∧ isBits x (fun w => w < σ 0 1 ∧ telO (m (h + 1)) n (saidS σ (rowL σ) w)) ∧ FrC m m') := by
  obtain ⟨d, rfl⟩ : ∃ e, d = e + 1 := ⟨d - 1, by omega⟩
  have h8 := hσ.2.1
  refine E_X10_wordsSaidAs (ls := [vR 11 0, vR 7 h, vU, vU]) rfl rfl ?_
  repeat refine AW.u 4 rfl rfl ?_
  try dsimp only [List.set_cons_zero, List.set_cons_succ, Option.toList_some, Option.toList_none, List.cons_append, List.nil_append]
  refine AW.loop (pc := 4) (σ := Int32) (σ 0 1) (fun i x => [vR 11 0, vR 7 h, vI x, vI (nI i)]) (fun i x m1 => FrC m m1 ∧ isBits x (fun w => w < i ∧ telO (m (h + 1)) n (saidS σ (rowL σ) w))) (fun i x m1 hi hm1 ih => ?_) 0 0 m (Nat.zero_le _) ⟨FrC.rf, isBits.zero.to (fun b => ⟨fun q => absurd q id, fun q => absurd q.1 (by omega)⟩)⟩
  obtain ⟨hf, hb⟩ := hm1
  have hs1 := hs.C hσ hf
  repeat refine AW.s rfl ?_
  try dsimp only [List.set_cons_zero, List.set_cons_succ, Option.toList_some, Option.toList_none, List.cons_append, List.nil_append]
  rw [show m1 (0 + 1) 4 = nI (σ 0 1) from hs1.2.1]
  refine AW.b rfl (fun hc => ?_) (fun hc => ?_)
  · have hlt : i < σ 0 1 := (nI_ltI (by omega) (by omega)).mp hc
    repeat refine AW.s rfl ?_
    try dsimp only [List.set_cons_zero, List.set_cons_succ, Option.toList_some, Option.toList_none, List.cons_append, List.nil_append]
    refine AW.V k_10_185 ((c_say (h := 61) (ρ := 16) (by omega) hs1 hσ (rowL_wf hσ) hs1.row hlt (by decide) (by decide))) rfl rfl rfl rfl rfl rfl (fun r1 m2 hq => ?_)
    obtain ⟨rfl, p1, p2⟩ := hq
    have fc2 : FrC m1 m2 := fun a ha => p2 a (by omega) (by omega)
    have fcc := hf.tr fc2
    repeat refine AW.s rfl ?_
    try dsimp only [List.set_cons_zero, List.set_cons_succ, Option.toList_some, Option.toList_none, List.cons_append, List.nil_append]
    refine AW.V k_10_365 ((c_Stells (h := h) (g := 61) (n := n) (by omega) (by rw [fcc h (by omega)]; exact hn) hn40 p1 (saidS_wf hσ (rowL_wf hσ) hlt))) rfl rfl rfl rfl rfl rfl (fun r1 m3 hq => ?_)
    obtain ⟨b, rfl, hbb, hm3⟩ := hq
    rw [hm3]
    rw [fcc (h + 1) (by omega)] at hbb
    try dsimp only [List.set_cons_zero, List.set_cons_succ, Option.toList_some, Option.toList_none, List.cons_append, List.nil_append]
    cases b with
    | false =>
      refine AW.b rfl (fun hc => ?_) (fun hc => ?_)
      · repeat refine AW.u 4 rfl rfl ?_
        try dsimp only [List.set_cons_zero, List.set_cons_succ, Option.toList_some, Option.toList_none, List.cons_append, List.nil_append]
        rw [nI_1]
        refine ih _ _ hlt ⟨fcc, hb.to (fun r => ⟨fun q => ⟨by omega, q.2⟩, fun q => ?_⟩)⟩
        by_cases e : r = i
        · subst e; exact absurd (hbb.mpr q.2) (by decide)
        · exact ⟨by omega, q.2⟩
      · exact absurd rfl hc
    | true =>
      refine AW.b rfl (fun hc => ?_) (fun hc => ?_)
      · exact absurd hc (by decide)
      · repeat refine AW.u 4 rfl rfl ?_
        try dsimp only [List.set_cons_zero, List.set_cons_succ, Option.toList_some, Option.toList_none, List.cons_append, List.nil_append]
        rw [nI_1]
        refine ih _ _ hlt ⟨fcc, (hb.or (k := i) (by omega)).to (fun r => ⟨fun q => ?_, fun q => ?_⟩)⟩
        · rcases q with q | rfl
          · exact ⟨by omega, q.2⟩
          · exact ⟨by omega, hbb.mp rfl⟩
        · by_cases e : r = i
          · exact Or.inr e
          · exact Or.inl ⟨by omega, q.2⟩
  · have : i = σ 0 1 := by
      have : ¬ i < σ 0 1 := fun q => hc ((nI_ltI (by omega) (by omega)).mpr q)
      omega
    subst this
    repeat refine AW.s rfl ?_
    try dsimp only [List.set_cons_zero, List.set_cons_succ, Option.toList_some, Option.toList_none, List.cons_append, List.nil_append]
    exact AW.ri rfl rfl rfl ⟨_, rfl, hb, hf⟩
/-- how many of the first are so -/
noncomputable def cntP (P : Nat → Prop) (i : Nat) : Nat := match i with
  | 0 => 0
  | i + 1 => cntP P i + @ite Nat (P i) (Classical.propDecidable _) 1 0
theorem cntP_yes {P : Nat → Prop} {i : Nat} (h : P i) : cntP P (i + 1) = cntP P i + 1 := by
  rw [cntP, if_pos h]
theorem cntP_no {P : Nat → Prop} {i : Nat} (h : ¬ P i) : cntP P (i + 1) = cntP P i := by
  rw [cntP, if_neg h, Nat.add_zero]
theorem cntP_le {P : Nat → Prop} (i : Nat) : cntP P i ≤ i := by
  induction i with
  | zero => exact Nat.le_refl _
  | succ i ih =>
    by_cases h : P i
    · rw [cntP_yes h]; omega
    · rw [cntP_no h]; omega
/-- how many words a rule turns into what a sheet tells -/
noncomputable def wttN (σ : Sg) (g : Nat → Int32) (n r : Nat) : Nat := cntP (fun w => telO g n (turnS σ r (some (wl σ w)))) (σ 0 1)
theorem c_wordsTurningTo {l : Launch} {X : XT} {d : Nat} {h n r : Nat} {m : Mem} {σ : Sg} (hd : 4 ≤ d) (hs : RepS m 1 σ) (hσ : WF σ) (hr : r < σ 0 2) (hh : 235 ≤ h) (hn : m h 2 = nI n) (hn40 : n ≤ 40) : Meth l X d M_X10_wordsTurningTo [vR 11 0, vR 7 h, vI (nI r)] m (fun r1 m' => r1 = some (vI (nI (wttN σ (m (h + 1)) n r))) ∧ FrC m m') := by
  obtain ⟨d, rfl⟩ : ∃ e, d = e + 1 := ⟨d - 1, by omega⟩
  have h8 := hσ.2.1
  refine E_X10_wordsTurningTo (ls := [vR 11 0, vR 7 h, vI (nI r), vU, vU]) rfl rfl ?_
  repeat refine AW.u 5 rfl rfl ?_
  try dsimp only [List.set_cons_zero, List.set_cons_succ, Option.toList_some, Option.toList_none, List.cons_append, List.nil_append]
  refine AW.loop (pc := 5) (σ := Unit) (σ 0 1) (fun i _ => [vR 11 0, vR 7 h, vI (nI r), vI (nI (cntP (fun w => telO (m (h + 1)) n (turnS σ r (some (wl σ w)))) i)), vI (nI i)]) (fun i _ m1 => FrC m m1) (fun i _ m1 hi hf ih => ?_) 0 () m (Nat.zero_le _) FrC.rf
  have hs1 := hs.C hσ hf
  have hcl := cntP_le (P := fun w => telO (m (h + 1)) n (turnS σ r (some (wl σ w)))) i
  repeat refine AW.s rfl ?_
  try dsimp only [List.set_cons_zero, List.set_cons_succ, Option.toList_some, Option.toList_none, List.cons_append, List.nil_append]
  rw [show m1 (0 + 1) 4 = nI (σ 0 1) from hs1.2.1]
  refine AW.b rfl (fun hc => ?_) (fun hc => ?_)
  · have hlt : i < σ 0 1 := (nI_ltI (by omega) (by omega)).mp hc
    repeat refine AW.s rfl ?_
    try dsimp only [List.set_cons_zero, List.set_cons_succ, Option.toList_some, Option.toList_none, List.cons_append, List.nil_append]
    refine AW.V k_10_193 ((c_sayByOne (h := 61) (by omega) hs1 hσ hr hlt (by decide))) rfl rfl rfl rfl rfl rfl (fun r1 m2 hq => ?_)
    obtain ⟨rfl, p1, p2⟩ := hq
    have fc2 : FrC m1 m2 := fun a ha => p2 a (by omega) (by omega)
    have fcc := hf.tr fc2
    repeat refine AW.s rfl ?_
    try dsimp only [List.set_cons_zero, List.set_cons_succ, Option.toList_some, Option.toList_none, List.cons_append, List.nil_append]
    refine AW.V k_10_365 ((c_Stells (h := h) (g := 61) (n := n) (by omega) (by rw [fcc h (by omega)]; exact hn) hn40 p1 (turnS_wf hσ hr (wl_wf hσ hlt)))) rfl rfl rfl rfl rfl rfl (fun r1 m3 hq => ?_)
    obtain ⟨b, rfl, hbb, hm3⟩ := hq
    rw [hm3]
    rw [fcc (h + 1) (by omega)] at hbb
    try dsimp only [List.set_cons_zero, List.set_cons_succ, Option.toList_some, Option.toList_none, List.cons_append, List.nil_append]
    cases b with
    | false =>
      have hno := cntP_no (P := fun w => telO (m (h + 1)) n (turnS σ r (some (wl σ w)))) (i := i) (fun q => by cases hbb.mpr q)
      refine AW.b rfl (fun hc => ?_) (fun hc => ?_)
      · repeat refine AW.u 5 rfl rfl ?_
        try dsimp only [List.set_cons_zero, List.set_cons_succ, Option.toList_some, Option.toList_none, List.cons_append, List.nil_append]
        rw [nI_1, ← hno]
        exact ih () _ hlt fcc
      · exact absurd rfl hc
    | true =>
      have hys := cntP_yes (P := fun w => telO (m (h + 1)) n (turnS σ r (some (wl σ w)))) (i := i) (hbb.mp rfl)
      refine AW.b rfl (fun hc => ?_) (fun hc => ?_)
      · exact absurd hc (by decide)
      · repeat refine AW.u 5 rfl rfl ?_
        try dsimp only [List.set_cons_zero, List.set_cons_succ, Option.toList_some, Option.toList_none, List.cons_append, List.nil_append]
        rw [nI_1, nI_1, ← hys]
        exact ih () _ hlt fcc
  · have : i = σ 0 1 := by
      have : ¬ i < σ 0 1 := fun q => hc ((nI_ltI (by omega) (by omega)).mpr q)
      omega
    subst this
    repeat refine AW.s rfl ?_
    try dsimp only [List.set_cons_zero, List.set_cons_succ, Option.toList_some, Option.toList_none, List.cons_append, List.nil_append]
    exact AW.ri rfl rfl rfl ⟨rfl, hf⟩
theorem c_rulesTurningTo {l : Launch} {X : XT} {d : Nat} {h n : Nat} {m : Mem} {σ : Sg} (hd : 5 ≤ d) (hs : RepS m 1 σ) (hσ : WF σ) (hh : 235 ≤ h) (hn : m h 2 = nI n) (hn40 : n ≤ 40) : Meth l X d M_X10_rulesTurningTo [vR 11 0, vR 7 h] m (fun r1 m' => ∃ x, r1 = some (vI x) ∧ isBits x (fun r => r < σ 0 2 ∧ 0 < wttN σ (m (h + 1)) n r) ∧ FrC m m') := by
  obtain ⟨d, rfl⟩ : ∃ e, d = e + 1 := ⟨d - 1, by omega⟩
  have h8 := hσ.2.1
  have h6 := hσ.2.2.1
  refine E_X10_rulesTurningTo (ls := [vR 11 0, vR 7 h, vU, vU]) rfl rfl ?_
  repeat refine AW.u 4 rfl rfl ?_
  try dsimp only [List.set_cons_zero, List.set_cons_succ, Option.toList_some, Option.toList_none, List.cons_append, List.nil_append]
  refine AW.loop (pc := 4) (σ := Int32) (σ 0 2) (fun i x => [vR 11 0, vR 7 h, vI x, vI (nI i)]) (fun i x m1 => FrC m m1 ∧ isBits x (fun r => r < i ∧ 0 < wttN σ (m (h + 1)) n r)) (fun i x m1 hi hm1 ih => ?_) 0 0 m (Nat.zero_le _) ⟨FrC.rf, isBits.zero.to (fun b => ⟨fun q => absurd q id, fun q => absurd q.1 (by omega)⟩)⟩
  obtain ⟨hf, hb⟩ := hm1
  have hs1 := hs.C hσ hf
  repeat refine AW.s rfl ?_
  try dsimp only [List.set_cons_zero, List.set_cons_succ, Option.toList_some, Option.toList_none, List.cons_append, List.nil_append]
  rw [show m1 (0 + 1) 8 = nI (σ 0 2) from hs1.2.2.1]
  refine AW.b rfl (fun hc => ?_) (fun hc => ?_)
  · have hlt : i < σ 0 2 := (nI_ltI (by omega) (by omega)).mp hc
    repeat refine AW.s rfl ?_
    try dsimp only [List.set_cons_zero, List.set_cons_succ, Option.toList_some, Option.toList_none, List.cons_append, List.nil_append]
    refine AW.V k_10_368 ((c_wordsTurningTo (h := h) (n := n) (r := i) (by omega) hs1 hσ hlt hh (by rw [hf h (by omega)]; exact hn) hn40)) rfl rfl rfl rfl rfl rfl (fun r1 m2 hq => ?_)
    obtain ⟨rfl, fc2⟩ := hq
    rw [hf (h + 1) (by omega)]
    have hle : wttN σ (m (h + 1)) n i ≤ σ 0 1 := cntP_le _
    try dsimp only [List.set_cons_zero, List.set_cons_succ, Option.toList_some, Option.toList_none, List.cons_append, List.nil_append]
    refine AW.b rfl (fun hc => ?_) (fun hc => ?_)
    · have hz : 0 < wttN σ (m (h + 1)) n i := by
        rcases Nat.eq_zero_or_pos (wttN σ (m (h + 1)) n i) with q | q
        · rw [q] at hc; exact absurd hc (by decide)
        · exact q
      repeat refine AW.u 4 rfl rfl ?_
      try dsimp only [List.set_cons_zero, List.set_cons_succ, Option.toList_some, Option.toList_none, List.cons_append, List.nil_append]
      rw [nI_1]
      refine ih _ _ hlt ⟨hf.tr fc2, (hb.or (k := i) (by omega)).to (fun r => ⟨fun q => ?_, fun q => ?_⟩)⟩
      · rcases q with q | rfl
        · exact ⟨by omega, q.2⟩
        · exact ⟨by omega, hz⟩
      · by_cases e : r = i
        · exact Or.inr e
        · exact Or.inl ⟨by omega, q.2⟩
    · have hz : ¬ 0 < wttN σ (m (h + 1)) n i := fun q => hc (nI_lt (a := 0) q (by omega))
      repeat refine AW.u 4 rfl rfl ?_
      try dsimp only [List.set_cons_zero, List.set_cons_succ, Option.toList_some, Option.toList_none, List.cons_append, List.nil_append]
      rw [nI_1]
      refine ih _ _ hlt ⟨hf.tr fc2, hb.to (fun r => ⟨fun q => ⟨by omega, q.2⟩, fun q => ?_⟩)⟩
      by_cases e : r = i
      · subst e; exact absurd q.2 hz
      · exact ⟨by omega, q.2⟩
  · have : i = σ 0 2 := by
      have : ¬ i < σ 0 2 := fun q => hc ((nI_ltI (by omega) (by omega)).mpr q)
      omega
    subst this
    repeat refine AW.s rfl ?_
    try dsimp only [List.set_cons_zero, List.set_cons_succ, Option.toList_some, Option.toList_none, List.cons_append, List.nil_append]
    exact AW.ri rfl rfl rfl ⟨_, rfl, hb, hf⟩
/-- how many pairs of a rule and a word -/
noncomputable def pttN (σ : Sg) (g : Nat → Int32) (n i : Nat) : Nat := match i with
  | 0 => 0
  | i + 1 => pttN σ g n i + wttN σ g n i
theorem pttN_s {σ : Sg} {g : Nat → Int32} {n i : Nat} : pttN σ g n (i + 1) = pttN σ g n i + wttN σ g n i := by rw [pttN]
theorem pttN_le {σ : Sg} {g : Nat → Int32} {n : Nat} (i : Nat) : pttN σ g n i ≤ i * σ 0 1 := by
  induction i with
  | zero => rw [pttN]; omega
  | succ i ih =>
    have : wttN σ g n i ≤ σ 0 1 := cntP_le _
    rw [pttN, Nat.succ_mul]
    omega
theorem c_pairsTurningTo {l : Launch} {X : XT} {d : Nat} {h n : Nat} {m : Mem} {σ : Sg} (hd : 5 ≤ d) (hs : RepS m 1 σ) (hσ : WF σ) (hh : 235 ≤ h) (hn : m h 2 = nI n) (hn40 : n ≤ 40) : Meth l X d M_X10_pairsTurningTo [vR 11 0, vR 7 h] m (fun r1 m' => r1 = some (vI (nI (pttN σ (m (h + 1)) n (σ 0 2)))) ∧ FrC m m') := by
  obtain ⟨d, rfl⟩ : ∃ e, d = e + 1 := ⟨d - 1, by omega⟩
  have h8 := hσ.2.1
  have h6 := hσ.2.2.1
  refine E_X10_pairsTurningTo (ls := [vR 11 0, vR 7 h, vU, vU]) rfl rfl ?_
  repeat refine AW.u 4 rfl rfl ?_
  try dsimp only [List.set_cons_zero, List.set_cons_succ, Option.toList_some, Option.toList_none, List.cons_append, List.nil_append]
  refine AW.loop (pc := 4) (σ := Unit) (σ 0 2) (fun i _ => [vR 11 0, vR 7 h, vI (nI (pttN σ (m (h + 1)) n i)), vI (nI i)]) (fun i _ m1 => FrC m m1) (fun i _ m1 hi hf ih => ?_) 0 () m (Nat.zero_le _) FrC.rf
  have hs1 := hs.C hσ hf
  repeat refine AW.s rfl ?_
  try dsimp only [List.set_cons_zero, List.set_cons_succ, Option.toList_some, Option.toList_none, List.cons_append, List.nil_append]
  rw [show m1 (0 + 1) 8 = nI (σ 0 2) from hs1.2.2.1]
  refine AW.b rfl (fun hc => ?_) (fun hc => ?_)
  · have hlt : i < σ 0 2 := (nI_ltI (by omega) (by omega)).mp hc
    repeat refine AW.s rfl ?_
    try dsimp only [List.set_cons_zero, List.set_cons_succ, Option.toList_some, Option.toList_none, List.cons_append, List.nil_append]
    refine AW.V k_10_368 ((c_wordsTurningTo (h := h) (n := n) (r := i) (by omega) hs1 hσ hlt hh (by rw [hf h (by omega)]; exact hn) hn40)) rfl rfl rfl rfl rfl rfl (fun r1 m2 hq => ?_)
    obtain ⟨rfl, fc2⟩ := hq
    rw [hf (h + 1) (by omega)]
    repeat refine AW.u 4 rfl rfl ?_
    try dsimp only [List.set_cons_zero, List.set_cons_succ, Option.toList_some, Option.toList_none, List.cons_append, List.nil_append]
    rw [nI_1, nI_add, ← pttN_s]
    exact ih () _ hlt (hf.tr fc2)
  · have : i = σ 0 2 := by
      have : ¬ i < σ 0 2 := fun q => hc ((nI_ltI (by omega) (by omega)).mpr q)
      omega
    subst this
    repeat refine AW.s rfl ?_
    try dsimp only [List.set_cons_zero, List.set_cons_succ, Option.toList_some, Option.toList_none, List.cons_append, List.nil_append]
    exact AW.ri rfl rfl rfl ⟨rfl, hf⟩
end
section
/-- the greatest number from 2 to i - 1 that divides both, or 1 -/
def cdN (a b i : Nat) : Nat := match i with
  | 0 => 1
  | i + 1 => if 2 ≤ i ∧ a % i = 0 ∧ b % i = 0 then i else cdN a b i
theorem c_commonDivisor {l : Launch} {X : XT} {d : Nat} {a b : Nat} {m : Mem} (ha : a ≤ 1000) (hb : b ≤ 1000) : Meth l X d M_X10_commonDivisor [vI (nI a), vI (nI b)] m (fun r m' => r = some (vI (nI (cdN a b (b - 1 + 2)))) ∧ m' = m) := by
  refine E_X10_commonDivisor (ls := [vI (nI a), vI (nI b), vU, vU]) rfl rfl ?_
  repeat refine AW.u 4 rfl rfl ?_
  try dsimp only [List.set_cons_zero, List.set_cons_succ, Option.toList_some, Option.toList_none, List.cons_append, List.nil_append]
  refine AW.loop (pc := 4) (σ := Unit) (b - 1) (fun i _ => [vI (nI a), vI (nI b), vI (nI (cdN a b (i + 2))), vI (nI (i + 2))]) (fun i _ m1 => m1 = m) (fun i _ m1 hi hm1 ih => ?_) 0 () m (Nat.zero_le _) rfl
  subst hm1
  have e3 : cdN a b (i + 1 + 2) = if 2 ≤ i + 2 ∧ a % (i + 2) = 0 ∧ b % (i + 2) = 0 then i + 2 else cdN a b (i + 2) := rfl
  have ma := Nat.mod_lt a (show 0 < i + 2 by omega)
  have mb := Nat.mod_lt b (show 0 < i + 2 by omega)
  repeat refine AW.s rfl ?_
  try dsimp only [List.set_cons_zero, List.set_cons_succ, Option.toList_some, Option.toList_none, List.cons_append, List.nil_append]
  refine AW.b rfl (fun hc => ?_) (fun hc => ?_)
  · have hge : b < i + 2 := (nI_ltI (by omega) (by omega)).mp hc
    have : i = b - 1 := by omega
    subst this
    repeat refine AW.s rfl ?_
    try dsimp only [List.set_cons_zero, List.set_cons_succ, Option.toList_some, Option.toList_none, List.cons_append, List.nil_append]
    exact AW.ri rfl rfl rfl ⟨rfl, rfl⟩
  · have hlt : i + 2 ≤ b := by
      have : ¬ b < i + 2 := fun q => hc (nI_lt q (by omega))
      omega
    repeat refine AW.s rfl ?_
    try dsimp only [List.set_cons_zero, List.set_cons_succ, Option.toList_some, Option.toList_none, List.cons_append, List.nil_append]
    refine AW.c rfl (nI_ne0 (by omega) (by omega)) ?_
    try dsimp only [List.set_cons_zero, List.set_cons_succ, Option.toList_some, Option.toList_none, List.cons_append, List.nil_append]
    rw [pk_rem (by omega) (by omega) (by omega)]
    refine AW.b rfl (fun hc => ?_) (fun hc => ?_)
    · have ea : a % (i + 2) = 0 := (nI_eq (b := 0) (by omega) (by decide)).mp hc
      repeat refine AW.s rfl ?_
      try dsimp only [List.set_cons_zero, List.set_cons_succ, Option.toList_some, Option.toList_none, List.cons_append, List.nil_append]
      refine AW.c rfl (nI_ne0 (by omega) (by omega)) ?_
      try dsimp only [List.set_cons_zero, List.set_cons_succ, Option.toList_some, Option.toList_none, List.cons_append, List.nil_append]
      rw [pk_rem (by omega) (by omega) (by omega)]
      refine AW.b rfl (fun hc => ?_) (fun hc => ?_)
      · have eb : b % (i + 2) = 0 := (nI_eq (b := 0) (by omega) (by decide)).mp hc
        rw [if_pos ⟨by omega, ea, eb⟩] at e3
        have ih := ih () m1 (by omega) rfl
        rw [e3] at ih
        repeat refine AW.u 4 rfl rfl ?_
        try dsimp only [List.set_cons_zero, List.set_cons_succ, Option.toList_some, Option.toList_none, List.cons_append, List.nil_append]
        rw [nI_1]
        exact ih
      · have eb : ¬ b % (i + 2) = 0 := fun q => hc (by rw [q]; rfl)
        rw [if_neg (fun q => eb q.2.2)] at e3
        have ih := ih () m1 (by omega) rfl
        rw [e3] at ih
        repeat refine AW.u 4 rfl rfl ?_
        try dsimp only [List.set_cons_zero, List.set_cons_succ, Option.toList_some, Option.toList_none, List.cons_append, List.nil_append]
        rw [nI_1]
        exact ih
    · have ea : ¬ a % (i + 2) = 0 := fun q => hc (by rw [q]; rfl)
      rw [if_neg (fun q => ea q.2.1)] at e3
      have ih := ih () m1 (by omega) rfl
      rw [e3] at ih
      repeat refine AW.u 4 rfl rfl ?_
      try dsimp only [List.set_cons_zero, List.set_cons_succ, Option.toList_some, Option.toList_none, List.cons_append, List.nil_append]
      rw [nI_1]
      exact ih
theorem cdN_gcd : ∀ b, b < 21 → ∀ a, a < 21 → (0 < b → cdN a b (b - 1 + 2) = Nat.gcd a b) := by decide +kernel
theorem c_search {l : Launch} {X : XT} {d : Nat} {m : Mem} {σ : Sg} {T : Nat} {en : Nat → Nat} (hd : 11 ≤ d) (hs : RepS m 1 σ) (hσ : WF σ) (hT : 199 ≤ T) (ht : TOK m T en) : Meth l X d M_X1_search [vR 2 67, vR 8 1, vR 10 T] m (fun r m' => r = none ∧ kbOf m' = ((cmpW (σ 0 2) (σ 0 2) []).map (wayV σ (tellV m T en))).foldl kbF (1, m 67 4, m 67 5) ∧ ∀ a, (a < 67 ∨ 198 < a) → a ≠ T + 4 → m' a = m a) := by
  obtain ⟨d, rfl⟩ : ∃ e, d = e + 1 := ⟨d - 1, by omega⟩
  have h6 : σ 0 2 ≤ 6 := hσ.2.2.1
  refine E_X1_search (ls := [vR 2 67, vR 8 1, vR 10 T]) rfl rfl ?_
  repeat refine AW.s rfl ?_
  try dsimp only [List.set_cons_zero, List.set_cons_succ, Option.toList_some, Option.toList_none, List.cons_append, List.nil_append]
  refine AW.c rfl (Or.inr rfl) ?_
  try dsimp only [List.set_cons_zero, List.set_cons_succ, Option.toList_some, Option.toList_none, List.cons_append, List.nil_append]
  repeat refine AW.s rfl ?_
  try dsimp only [List.set_cons_zero, List.set_cons_succ, Option.toList_some, Option.toList_none, List.cons_append, List.nil_append]
  refine AW.c rfl (vp_in_nI (n := 0) (by decide) (by decide)) ?_
  try dsimp only [List.set_cons_zero, List.set_cons_succ, Option.toList_some, Option.toList_none, List.cons_append, List.nil_append]
  rw [show (0 : Int32).toNatClampNeg = 0 from rfl]
  repeat refine AW.s rfl ?_
  try dsimp only [List.set_cons_zero, List.set_cons_succ, Option.toList_some, Option.toList_none, List.cons_append, List.nil_append]
  generalize hm0 : mUp (mUp m 67 3 1) _ 1 0 = m0
  have f0 : ∀ a, a ≠ 67 → a ≠ 69 → m0 a = m a := fun a h1 h2 => by rw [← hm0, mUp_a h2, mUp_a h1]
  have hs0 : RepS m0 1 σ := hs.fr hσ.2.1 (fun a h1 h2 => f0 a (by omega) (by omega))
  refine AW.V k_1_40 ((c_beginAll (H := 73) (by omega) hs0 hσ (by decide))) rfl rfl rfl rfl rfl rfl (fun r1 m1 hq => ?_)
  obtain ⟨rfl, hY, hf1⟩ := hq
  have f1 : ∀ a, (a < 67 ∨ 198 < a) → m1 a = m a := fun a h1 => by rw [hf1 a (by omega), f0 a (by omega) (by omega)]
  have ht1 : TOK m1 T en := ht.fr (f1 _ (by omega)) (f1 _ (by omega)) (f1 _ (by omega)) (f1 _ (by omega))
  repeat refine AW.s rfl ?_
  try dsimp only [List.set_cons_zero, List.set_cons_succ, Option.toList_some, Option.toList_none, List.cons_append, List.nil_append]
  refine AW.V k_1_44 ((c_goOn hσ (τ := tellV m T en) hT (σ 0 2) _ [] 0 m1 (by omega) (Nat.zero_add _) (fun r hr => absurd hr List.not_mem_nil) (hs.fr hσ.2.1 (fun a h1 h2 => f1 a (by omega))) ht1 (fun p F hp => by unfold tellV; rw [tval_eq ht hp (f1 _ (by omega)) (f1 _ (by omega)) (f1 _ (by omega)) (fun _ _ => rfl)]) ⟨by rw [hf1 69 (by decide), ← hm0]; exact mUp_s _ _ _ _, fun k x hk => by cases hk⟩ (isBits.zero.to (fun r => ⟨fun q => absurd q id, fun q => absurd q List.not_mem_nil⟩)) hY)) rfl rfl rfl rfl rfl rfl (fun r1 m2 hq => ?_)
  obtain ⟨rfl, hk, hfo⟩ := hq
  have hkb : kbOf m1 = (1, m 67 4, m 67 5) := by
    unfold kbOf
    rw [hf1 67 (by decide), ← hm0, mUp_a (show (67 : Nat) ≠ 69 by decide), mUp_s, mUp_n (Or.inr (by decide)), mUp_n (Or.inr (by decide))]
  rw [hkb] at hk
  exact AW.rv rfl rfl ⟨rfl, hk, fun a h1 h2 => by rw [hfo.1 a (by omega) (by omega) (by omega) (by omega) h2 (by omega)]; exact f1 a h1⟩
/-- what the law says of a word: part p -/
def jdgV (σ : Sg) (τ : Nat → (Nat → Int32) → Int32) (w p : Nat) : Int32 := match saidS σ (rowL σ) w with
  | none => 0
  | some xs => if p = 0 then hardV σ (rowL σ) (τ 0 (fctV σ (rowL σ) w xs)) else τ p (fctV σ (rowL σ) w xs)
theorem c_judged {l : Launch} {X : XT} {d : Nat} {w p : Nat} {en : Nat → Nat} {m : Mem} {σ : Sg} (hd : 5 ≤ d) (hs : RepS m 1 σ) (hσ : WF σ) (hw : w < σ 0 1) (hp : p < 3) (ht : TOK m (199 + 6 * σ 0 4) en) : Meth l X d M_X10_judged [vR 11 0, vI (nI w), vI (nI p)] m (fun r m' => r = some (vI (jdgV σ (tellV m (199 + 6 * σ 0 4) en) w p)) ∧ FrC m m') := by
  obtain ⟨d, rfl⟩ : ∃ e, d = e + 1 := ⟨d - 1, by omega⟩
  have hl6 : σ 0 4 < 6 := hσ.2.2.2.2.1
  refine E_X10_judged (ls := [vR 11 0, vI (nI w), vI (nI p)]) rfl rfl ?_
  repeat refine AW.s rfl ?_
  try dsimp only [List.set_cons_zero, List.set_cons_succ, Option.toList_some, Option.toList_none, List.cons_append, List.nil_append]
  refine AW.V k_10_185 ((c_say (h := 61) (ρ := 16) (by omega) hs hσ (rowL_wf hσ) hs.row hw (by decide) (by decide))) rfl rfl rfl rfl rfl rfl (fun r1 m1 hq => ?_)
  obtain ⟨rfl, p1, p2⟩ := hq
  have fc1 : FrC m m1 := fun a ha => p2 a (by omega) (by omega)
  have hs1 := hs.C hσ fc1
  have hwo := saidS_wf hσ (rowL_wf hσ) hw
  repeat refine AW.s rfl ?_
  try dsimp only [List.set_cons_zero, List.set_cons_succ, Option.toList_some, Option.toList_none, List.cons_append, List.nil_append]
  refine AW.V k_10_268 (c_isTooLong) rfl rfl rfl rfl rfl rfl (fun r1 m9 hq => ?_)
  obtain ⟨rfl, hm9⟩ := hq
  rw [hm9]
  try dsimp only [List.set_cons_zero, List.set_cons_succ, Option.toList_some, Option.toList_none, List.cons_append, List.nil_append]
  have hj : jdgV σ (tellV m (199 + 6 * σ 0 4) en) w p = match saidS σ (rowL σ) w with | none => 0 | some xs => if p = 0 then hardV σ (rowL σ) (tellV m (199 + 6 * σ 0 4) en 0 (fctV σ (rowL σ) w xs)) else tellV m (199 + 6 * σ 0 4) en p (fctV σ (rowL σ) w xs) := by unfold jdgV; rfl
  cases hoo : saidS σ (rowL σ) w with
  | none =>
    rw [hoo] at p1 hj
    rw [if_pos (show m1 61 1 = -1 from p1)]
    refine AW.b rfl (fun hc => ?_) (fun hc => ?_)
    · exact absurd hc (by decide)
    · repeat refine AW.s rfl ?_
      try dsimp only [List.set_cons_zero, List.set_cons_succ, Option.toList_some, Option.toList_none, List.cons_append, List.nil_append]
      exact AW.ri rfl rfl rfl ⟨by rw [hj], fc1⟩
  | some xs =>
    rw [hoo] at p1 hj hwo
    obtain ⟨a1, a2, a3⟩ := hwo xs rfl
    rw [if_neg (show ¬ m1 61 1 = -1 by rw [p1.1]; exact nI_m1 (by omega))]
    refine AW.b rfl (fun hc => ?_) (fun hc => ?_)
    · repeat refine AW.s rfl ?_
      try dsimp only [List.set_cons_zero, List.set_cons_succ, Option.toList_some, Option.toList_none, List.cons_append, List.nil_append]
      refine AW.V k_10_325 ((c_regard (J := 65) (ρ := 16) (h := 61) (by omega) hs1 hσ (rowL_wf hσ) hs1.row hw p1 hwo (by decide) (by decide) (by decide))) rfl rfl rfl rfl rfl rfl (fun r1 m2 hq => ?_)
      obtain ⟨rfl, q1, q2⟩ := hq
      have fc2 : FrC m m2 := fc1.tr (fun a ha => q2 a (by omega))
      have hs2 := hs.C hσ fc2
      have ht2 := ht.C hl6 fc2
      have htv : ∀ p, p < 3 → clI (tval m2 (199 + 6 * σ 0 4) en p (m2 66)) = tellV m (199 + 6 * σ 0 4) en p (fctV σ (rowL σ) w xs) := by
        intro p hp
        unfold tellV
        rw [tval_eq ht hp (fc2 _ (by omega)) (fc2 _ (by omega)) (fc2 _ (by omega)) (fun k hk => q1 k hk)]
      repeat refine AW.s rfl ?_
      try dsimp only [List.set_cons_zero, List.set_cons_succ, Option.toList_some, Option.toList_none, List.cons_append, List.nil_append]
      refine AW.b rfl (fun hc => ?_) (fun hc => ?_)
      · have hp0 : p = 0 := (nI_eq (b := 0) (by omega) (by decide)).mp hc
        subst hp0
        repeat refine AW.s rfl ?_
        try dsimp only [List.set_cons_zero, List.set_cons_succ, Option.toList_some, Option.toList_none, List.cons_append, List.nil_append]
        refine AW.V k_10_231 ((c_law hs2 hσ)) rfl rfl rfl rfl rfl rfl (fun r1 m3 hq => ?_)
        obtain ⟨rfl, hm3⟩ := hq
        rw [hm3]
        repeat refine AW.s rfl ?_
        try dsimp only [List.set_cons_zero, List.set_cons_succ, Option.toList_some, Option.toList_none, List.cons_append, List.nil_append]
        refine AW.V k_10_329 ((c_hard (J := 65) (ρ := 16) (by omega) hs2 hσ (rowL_wf hσ) hs2.row ht2 (by omega) (by omega) (by omega))) rfl rfl rfl rfl rfl rfl (fun r1 m4 hq => ?_)
        obtain ⟨rfl, q4⟩ := hq
        repeat refine AW.s rfl ?_
        try dsimp only [List.set_cons_zero, List.set_cons_succ, Option.toList_some, Option.toList_none, List.cons_append, List.nil_append]
        refine AW.ri rfl rfl rfl ⟨?_, fc2.tr (fun a ha => q4 a (by omega))⟩
        rw [hj, htv 0 (by decide)]
        exact congrArg some (congrArg vI (if_pos rfl).symm)
      · have hp0 : ¬ p = 0 := fun q => hc (by rw [q]; rfl)
        repeat refine AW.s rfl ?_
        try dsimp only [List.set_cons_zero, List.set_cons_succ, Option.toList_some, Option.toList_none, List.cons_append, List.nil_append]
        refine AW.V k_10_231 ((c_law hs2 hσ)) rfl rfl rfl rfl rfl rfl (fun r1 m3 hq => ?_)
        obtain ⟨rfl, hm3⟩ := hq
        rw [hm3]
        repeat refine AW.s rfl ?_
        try dsimp only [List.set_cons_zero, List.set_cons_succ, Option.toList_some, Option.toList_none, List.cons_append, List.nil_append]
        refine AW.V k_10_336 ((c_tells (F := 66) (by omega) ht2 hp (by omega))) rfl rfl rfl rfl rfl rfl (fun r1 m4 hq => ?_)
        obtain ⟨rfl, q4⟩ := hq
        repeat refine AW.s rfl ?_
        try dsimp only [List.set_cons_zero, List.set_cons_succ, Option.toList_some, Option.toList_none, List.cons_append, List.nil_append]
        refine AW.ri rfl rfl rfl ⟨?_, fc2.tr (fun a ha => q4 a (by omega))⟩
        rw [hj, htv p hp]
        exact congrArg some (congrArg vI (if_neg hp0).symm)
    · exact absurd rfl hc
end
section
theorem sU_s {σ : Sg} {a k v : Nat} : sU σ a k v a k = v := if_pos ⟨rfl, rfl⟩
theorem sU_n {σ : Sg} {a k v a' k' : Nat} (h : a' ≠ a ∨ k' ≠ k) : sU σ a k v a' k' = σ a' k' := if_neg (fun q => by omega)
theorem c_letterOf {l : Launch} {X : XT} {d : Nat} {S w k : Nat} {m : Mem} {σ : Sg} (hs : RepS m S σ) (hσ : WF σ) (hw : w < σ 0 1) (hk : k < 100) : Meth l X d M_X7_letterOf [vR 8 S, vI (nI w), vI (nI k)] m (fun r m' => r = some (vI (if k < σ 1 w then nI (σ (10 + w) k) else -1)) ∧ m' = m) := by
  have hw8 : w < 8 := Nat.lt_of_lt_of_le hw hσ.2.1
  obtain ⟨z1, z2, -⟩ := hσ.2.2.2.2.2.1 w hw
  obtain ⟨y1, -, y3⟩ := hs.2.2.2.2.1 w hw
  refine E_X7_letterOf (ls := [vR 8 S, vI (nI w), vI (nI k)]) rfl rfl ?_
  repeat refine AW.s rfl ?_
  try dsimp only [List.set_cons_zero, List.set_cons_succ, Option.toList_some, Option.toList_none, List.cons_append, List.nil_append]
  refine AW.c rfl (vp_in_nI (by omega) (by decide)) ?_
  try dsimp only [List.set_cons_zero, List.set_cons_succ, Option.toList_some, Option.toList_none, List.cons_append, List.nil_append]
  rw [nI_clamp (by omega), y1]
  refine AW.b rfl (fun hc => ?_) (fun hc => ?_)
  · have hlt : k < σ 1 w := (nI_ltI (by omega) (by omega)).mp hc
    rw [if_pos hlt]
    repeat refine AW.s rfl ?_
    try dsimp only [List.set_cons_zero, List.set_cons_succ, Option.toList_some, Option.toList_none, List.cons_append, List.nil_append]
    refine AW.c rfl (vp_in_nI (by omega) (by decide)) ?_
    try dsimp only [List.set_cons_zero, List.set_cons_succ, Option.toList_some, Option.toList_none, List.cons_append, List.nil_append]
    rw [nI_clamp (by omega)]
    repeat refine AW.s rfl ?_
    try dsimp only [List.set_cons_zero, List.set_cons_succ, Option.toList_some, Option.toList_none, List.cons_append, List.nil_append]
    refine AW.c rfl (vp_in_nI (by omega) (by decide)) ?_
    try dsimp only [List.set_cons_zero, List.set_cons_succ, Option.toList_some, Option.toList_none, List.cons_append, List.nil_append]
    rw [nI_clamp (by omega), show S + 1 + 1 + 1 * w = S + 2 + w by omega, y3 k hlt]
    repeat refine AW.s rfl ?_
    try dsimp only [List.set_cons_zero, List.set_cons_succ, Option.toList_some, Option.toList_none, List.cons_append, List.nil_append]
    exact AW.ri rfl rfl rfl ⟨rfl, rfl⟩
  · have hlt : ¬ k < σ 1 w := fun q => hc (nI_lt q (by omega))
    rw [if_neg hlt]
    repeat refine AW.s rfl ?_
    try dsimp only [List.set_cons_zero, List.set_cons_succ, Option.toList_some, Option.toList_none, List.cons_append, List.nil_append]
    exact AW.ri rfl rfl rfl ⟨rfl, rfl⟩
/-- with a rule more -/
def addR (σ : Sg) (k l n : Nat) : Sg := sU (sU (sU (sU σ 3 (σ 0 2) k) 4 (σ 0 2) l) 5 (σ 0 2) n) 0 2 (σ 0 2 + 1)
theorem nI_s1 {n : Nat} : nI (n + 1) - 1 = nI n := by rw [← nI_1]; exact Int32.add_sub_cancel _ _
theorem c_addRule {l : Launch} {X : XT} {d : Nat} {S k j n : Nat} {m : Mem} {σ : Sg} (hs : RepS m S σ) (hσ : WF σ) (h6 : σ 0 2 < 6) : Meth l X d M_X7_addRule [vR 8 S, vI (nI k), vI (nI j), vI (nI n)] m (fun r m' => r = some (vI (nI (σ 0 2))) ∧ RepS m' S (addR σ k j n) ∧ ∀ a, a ≠ S → a ≠ S + 12 → a ≠ S + 13 → a ≠ S + 14 → m' a = m a) := by
  obtain ⟨h1, h2, h3, h4, h5, h7, h8, h9⟩ := hs
  refine E_X7_addRule (ls := [vR 8 S, vI (nI k), vI (nI j), vI (nI n)]) rfl rfl ?_
  repeat refine AW.s rfl ?_
  try dsimp only [List.set_cons_zero, List.set_cons_succ, Option.toList_some, Option.toList_none, List.cons_append, List.nil_append]
  rw [h3]
  refine AW.c rfl (⟨vp_in_nI (by omega) (by decide), fun z => absurd z (by decide)⟩) ?_
  try dsimp only [List.set_cons_zero, List.set_cons_succ, Option.toList_some, Option.toList_none, List.cons_append, List.nil_append]
  rw [nI_clamp (by omega)]
  repeat refine AW.s rfl ?_
  try dsimp only [List.set_cons_zero, List.set_cons_succ, Option.toList_some, Option.toList_none, List.cons_append, List.nil_append]
  rw [mUp_a (by omega), h3]
  refine AW.c rfl (⟨vp_in_nI (by omega) (by decide), fun z => absurd z (by decide)⟩) ?_
  try dsimp only [List.set_cons_zero, List.set_cons_succ, Option.toList_some, Option.toList_none, List.cons_append, List.nil_append]
  rw [nI_clamp (by omega)]
  repeat refine AW.s rfl ?_
  try dsimp only [List.set_cons_zero, List.set_cons_succ, Option.toList_some, Option.toList_none, List.cons_append, List.nil_append]
  rw [mUp_a (by omega), mUp_a (by omega), h3]
  refine AW.c rfl (⟨vp_in_nI (by omega) (by decide), fun z => absurd z (by decide)⟩) ?_
  try dsimp only [List.set_cons_zero, List.set_cons_succ, Option.toList_some, Option.toList_none, List.cons_append, List.nil_append]
  rw [nI_clamp (by omega)]
  repeat refine AW.s rfl ?_
  try dsimp only [List.set_cons_zero, List.set_cons_succ, Option.toList_some, Option.toList_none, List.cons_append, List.nil_append]
  rw [mUp_s, mUp_a (by omega), mUp_a (by omega), mUp_a (by omega), h3, nI_1, nI_s1]
  refine AW.ri rfl rfl rfl ⟨rfl, ?_, fun a e1 e2 e3 e4 => by rw [mUp_a e1, mUp_a e4, mUp_a e3, mUp_a e2]⟩
  have g2 : addR σ k j n 0 2 = σ 0 2 + 1 := sU_s
  have gn : ∀ a i, a ≠ 3 → a ≠ 4 → a ≠ 5 → (a ≠ 0 ∨ i ≠ 2) → addR σ k j n a i = σ a i := fun a i e1 e2 e3 e4 => by unfold addR; rw [sU_n e4, sU_n (Or.inl e3), sU_n (Or.inl e2), sU_n (Or.inl e1)]
  have fm : ∀ a, a ≠ S → a ≠ S + 12 → a ≠ S + 13 → a ≠ S + 14 → mUp (mUp (mUp (mUp m (S + 12) (σ 0 2) (nI k)) (S + 13) (σ 0 2) (nI j)) (S + 14) (σ 0 2) (nI n)) S 8 (nI (σ 0 2 + 1)) a = m a := fun a e1 e2 e3 e4 => by rw [mUp_a e1, mUp_a e4, mUp_a e3, mUp_a e2]
  have fS : ∀ i, i ≠ 8 → mUp (mUp (mUp (mUp m (S + 12) (σ 0 2) (nI k)) (S + 13) (σ 0 2) (nI j)) (S + 14) (σ 0 2) (nI n)) S 8 (nI (σ 0 2 + 1)) S i = m S i := fun i e => by rw [mUp_n (Or.inr e), mUp_a (by omega), mUp_a (by omega), mUp_a (by omega)]
  have hw8 := hσ.2.1
  unfold RepS
  rw [gn 0 0 (by decide) (by decide) (by decide) (by decide), gn 0 1 (by decide) (by decide) (by decide) (by decide), gn 0 3 (by decide) (by decide) (by decide) (by decide), gn 0 4 (by decide) (by decide) (by decide) (by decide), g2, fS 0 (by decide), fS 4 (by decide), fS 10 (by decide), mUp_s, fm (S + 15) (by omega) (by omega) (by omega) (by omega), fm (S + 16) (by omega) (by omega) (by omega) (by omega), fm (S + 10) (by omega) (by omega) (by omega) (by omega), fm (S + 11) (by omega) (by omega) (by omega) (by omega)]
  refine ⟨h1, h2, rfl, h4, fun w hw => ?_, fun r hr => ?_, h8, fun i hi => ?_⟩
  · rw [fm (S + 2 + w) (by omega) (by omega) (by omega) (by omega), gn 1 w (by decide) (by decide) (by decide) (Or.inl (by decide)), gn 2 w (by decide) (by decide) (by decide) (Or.inl (by decide))]
    refine ⟨(h5 w hw).1, (h5 w hw).2.1, fun i hi => ?_⟩
    rw [gn (10 + w) i (by omega) (by omega) (by omega) (by omega)]
    exact (h5 w hw).2.2 i hi
  · unfold addR
    by_cases e : r = σ 0 2
    · subst e
      refine ⟨?_, ?_, ?_⟩
      · rw [mUp_a (by omega), mUp_a (by omega), mUp_a (by omega), mUp_s, sU_n (Or.inl (by decide)), sU_n (Or.inl (by decide)), sU_n (Or.inl (by decide)), sU_s]
      · rw [mUp_a (by omega), mUp_a (by omega), mUp_s, sU_n (Or.inl (by decide)), sU_n (Or.inl (by decide)), sU_s]
      · rw [mUp_a (by omega), mUp_s, sU_n (Or.inl (by decide)), sU_s]
    · obtain ⟨y1, y2, y3⟩ := h7 r (by omega)
      refine ⟨?_, ?_, ?_⟩
      · rw [mUp_a (by omega), mUp_a (by omega), mUp_a (by omega), mUp_n (Or.inr e), sU_n (Or.inl (by decide)), sU_n (Or.inl (by decide)), sU_n (Or.inl (by decide)), sU_n (Or.inr e)]; exact y1
      · rw [mUp_a (by omega), mUp_a (by omega), mUp_n (Or.inr e), mUp_a (by omega), sU_n (Or.inl (by decide)), sU_n (Or.inl (by decide)), sU_n (Or.inr e), sU_n (Or.inl (by decide))]; exact y2
      · rw [mUp_a (by omega), mUp_n (Or.inr e), mUp_a (by omega), mUp_a (by omega), sU_n (Or.inl (by decide)), sU_n (Or.inr e), sU_n (Or.inl (by decide)), sU_n (Or.inl (by decide))]; exact y3
  · rw [gn 6 i (by decide) (by decide) (by decide) (Or.inl (by decide))]
    exact h9 i hi
theorem c_empty {l : Launch} {X : XT} {d : Nat} {T : Nat} {m : Mem} : Meth l X d M_X9_empty [vR 10 T] m (fun r m' => r = none ∧ m' = mUp m T 5 0) := by
  refine E_X9_empty (ls := [vR 10 T]) rfl rfl ?_
  repeat refine AW.s rfl ?_
  try dsimp only [List.set_cons_zero, List.set_cons_succ, Option.toList_some, Option.toList_none, List.cons_append, List.nil_append]
  exact AW.rv rfl rfl ⟨rfl, rfl⟩
theorem c_endPart {l : Launch} {X : XT} {d : Nat} {T p : Nat} {m : Mem} (hp : p < 3) : Meth l X d M_X9_endPart [vR 10 T, vI (nI p)] m (fun r m' => r = none ∧ m' = mUp m (T + 5) p (m T 5)) := by
  refine E_X9_endPart (ls := [vR 10 T, vI (nI p)]) rfl rfl ?_
  repeat refine AW.s rfl ?_
  try dsimp only [List.set_cons_zero, List.set_cons_succ, Option.toList_some, Option.toList_none, List.cons_append, List.nil_append]
  refine AW.c rfl (⟨vp_in_nI (by omega) (by decide), fun z => absurd z (by decide)⟩) ?_
  try dsimp only [List.set_cons_zero, List.set_cons_succ, Option.toList_some, Option.toList_none, List.cons_append, List.nil_append]
  rw [nI_clamp (by omega)]
  repeat refine AW.s rfl ?_
  try dsimp only [List.set_cons_zero, List.set_cons_succ, Option.toList_some, Option.toList_none, List.cons_append, List.nil_append]
  exact AW.rv rfl rfl ⟨rfl, rfl⟩
theorem c_add {l : Launch} {X : XT} {d : Nat} {T s : Nat} {o a b : Int32} {m : Mem} (hs : m T 5 = nI s) (h160 : s ≤ 160) : Meth l X d M_X9_add [vR 10 T, vI o, vI a, vI b] m (fun r m' => (s = 160 ∧ r = some (vI (-1)) ∧ m' = m) ∨ (s < 160 ∧ r = some (vI (nI s)) ∧ m' = mUp (mUp (mUp (mUp m (T + 1) s o) (T + 2) s a) (T + 3) s b) T 5 (nI (s + 1)))) := by
  refine E_X9_add (ls := [vR 10 T, vI o, vI a, vI b]) rfl rfl ?_
  repeat refine AW.s rfl ?_
  try dsimp only [List.set_cons_zero, List.set_cons_succ, Option.toList_some, Option.toList_none, List.cons_append, List.nil_append]
  rw [hs]
  refine AW.b rfl (fun hc => ?_) (fun hc => ?_)
  · have hlt : s < 160 := (nI_ltI (b := 160) (by omega) (by decide)).mp hc
    repeat refine AW.s rfl ?_
    try dsimp only [List.set_cons_zero, List.set_cons_succ, Option.toList_some, Option.toList_none, List.cons_append, List.nil_append]
    rw [hs]
    refine AW.c rfl (⟨vp_in_nI (by omega) (by decide), fun z => absurd z (by decide)⟩) ?_
    try dsimp only [List.set_cons_zero, List.set_cons_succ, Option.toList_some, Option.toList_none, List.cons_append, List.nil_append]
    rw [nI_clamp (by omega)]
    repeat refine AW.s rfl ?_
    try dsimp only [List.set_cons_zero, List.set_cons_succ, Option.toList_some, Option.toList_none, List.cons_append, List.nil_append]
    rw [mUp_a (by omega), hs]
    refine AW.c rfl (⟨vp_in_nI (by omega) (by decide), fun z => absurd z (by decide)⟩) ?_
    try dsimp only [List.set_cons_zero, List.set_cons_succ, Option.toList_some, Option.toList_none, List.cons_append, List.nil_append]
    rw [nI_clamp (by omega)]
    repeat refine AW.s rfl ?_
    try dsimp only [List.set_cons_zero, List.set_cons_succ, Option.toList_some, Option.toList_none, List.cons_append, List.nil_append]
    rw [mUp_a (by omega), mUp_a (by omega), hs]
    refine AW.c rfl (⟨vp_in_nI (by omega) (by decide), fun z => absurd z (by decide)⟩) ?_
    try dsimp only [List.set_cons_zero, List.set_cons_succ, Option.toList_some, Option.toList_none, List.cons_append, List.nil_append]
    rw [nI_clamp (by omega)]
    repeat refine AW.s rfl ?_
    try dsimp only [List.set_cons_zero, List.set_cons_succ, Option.toList_some, Option.toList_none, List.cons_append, List.nil_append]
    rw [mUp_s, mUp_a (by omega), mUp_a (by omega), mUp_a (by omega), hs, nI_1, nI_s1]
    exact AW.ri rfl rfl rfl (Or.inr ⟨hlt, rfl, rfl⟩)
  · have hge : s = 160 := by
      have : ¬ s < 160 := fun q => hc (nI_lt (b := 160) q (by decide))
      omega
    repeat refine AW.s rfl ?_
    try dsimp only [List.set_cons_zero, List.set_cons_succ, Option.toList_some, Option.toList_none, List.cons_append, List.nil_append]
    exact AW.ri rfl rfl rfl (Or.inl ⟨hge, rfl, rfl⟩)
theorem c_tellsWord {l : Launch} {X : XT} {d : Nat} {h n : Nat} {m : Mem} (hd : 2 ≤ d) (hn : m h 2 = nI n) (hn40 : n ≤ 40) : Meth l X d M_X6_tellsWord [vR 7 h] m (fun r m' => ∃ b : Bool, r = some (vI (if b then 1 else 0)) ∧ (b = true ↔ 1 ≤ n ∧ n ≤ 10 ∧ ∀ k, k < n → wB (m (h + 1) k) 25 = 1) ∧ m' = m) := by
  obtain ⟨d, rfl⟩ : ∃ e, d = e + 1 := ⟨d - 1, by omega⟩
  refine E_X6_tellsWord (ls := [vR 7 h, vU]) rfl rfl ?_
  repeat refine AW.s rfl ?_
  try dsimp only [List.set_cons_zero, List.set_cons_succ, Option.toList_some, Option.toList_none, List.cons_append, List.nil_append]
  rw [hn]
  refine AW.b rfl (fun hc => ?_) (fun hc => ?_)
  · have hn0 : n = 0 := by
      have := (nI_ltI (b := 1) (by omega) (by decide)).mp hc
      omega
    repeat refine AW.s rfl ?_
    try dsimp only [List.set_cons_zero, List.set_cons_succ, Option.toList_some, Option.toList_none, List.cons_append, List.nil_append]
    exact AW.ri rfl rfl rfl ⟨false, rfl, ⟨fun z => (by cases z), fun z => absurd z.1 (by omega)⟩, rfl⟩
  · have hn1 : 1 ≤ n := by
      have : ¬ n < 1 := fun q => hc (nI_lt (b := 1) q (by decide))
      omega
    repeat refine AW.s rfl ?_
    try dsimp only [List.set_cons_zero, List.set_cons_succ, Option.toList_some, Option.toList_none, List.cons_append, List.nil_append]
    rw [hn]
    refine AW.b rfl (fun hc => ?_) (fun hc => ?_)
    · have hn10 : 10 < n := (nI_ltI (a := 10) (by decide) (by omega)).mp hc
      repeat refine AW.s rfl ?_
      try dsimp only [List.set_cons_zero, List.set_cons_succ, Option.toList_some, Option.toList_none, List.cons_append, List.nil_append]
      exact AW.ri rfl rfl rfl ⟨false, rfl, ⟨fun z => (by cases z), fun z => absurd z.2.1 (by omega)⟩, rfl⟩
    · have hn10 : n ≤ 10 := by
        have : ¬ 10 < n := fun q => hc (nI_lt (a := 10) q (by omega))
        omega
      repeat refine AW.u 21 rfl rfl ?_
      try dsimp only [List.set_cons_zero, List.set_cons_succ, Option.toList_some, Option.toList_none, List.cons_append, List.nil_append]
      refine AW.loop (pc := 21) (σ := Unit) n (fun i _ => [vR 7 h, vI (nI i)]) (fun i _ m1 => m1 = m ∧ ∀ k, k < i → wB (m (h + 1) k) 25 = 1) (fun i _ m1 hi hm1 ih => ?_) 0 () m (Nat.zero_le _) ⟨rfl, fun k hk => absurd hk (by omega)⟩
      obtain ⟨rfl, hall⟩ := hm1
      repeat refine AW.s rfl ?_
      try dsimp only [List.set_cons_zero, List.set_cons_succ, Option.toList_some, Option.toList_none, List.cons_append, List.nil_append]
      rw [hn]
      refine AW.b rfl (fun hc => ?_) (fun hc => ?_)
      · have hlt : i < n := (nI_ltI (by omega) (by omega)).mp hc
        repeat refine AW.s rfl ?_
        try dsimp only [List.set_cons_zero, List.set_cons_succ, Option.toList_some, Option.toList_none, List.cons_append, List.nil_append]
        refine AW.c rfl (vp_in_nI (by omega) (by decide)) ?_
        try dsimp only [List.set_cons_zero, List.set_cons_succ, Option.toList_some, Option.toList_none, List.cons_append, List.nil_append]
        rw [nI_clamp (by omega)]
        refine AW.N k_6_38 ((c_isLetter (by omega))) rfl rfl rfl rfl (fun r1 m9 hq => ?_)
        obtain ⟨rfl, hm9⟩ := hq
        rw [hm9]
        try dsimp only [List.set_cons_zero, List.set_cons_succ, Option.toList_some, Option.toList_none, List.cons_append, List.nil_append]
        by_cases q : wB (m1 (h + 1) i) 25 = 1
        · rw [q]
          refine AW.b rfl (fun hc => ?_) (fun hc => ?_)
          · exact absurd hc (by decide)
          · repeat refine AW.u 21 rfl rfl ?_
            try dsimp only [List.set_cons_zero, List.set_cons_succ, Option.toList_some, Option.toList_none, List.cons_append, List.nil_append]
            rw [nI_1]
            refine ih () _ hlt ⟨rfl, fun k hk => ?_⟩
            by_cases e : k = i
            · subst e; exact q
            · exact hall k (by omega)
        · have q0 : wB (m1 (h + 1) i) 25 = 0 := by
            unfold wB at *
            split
            · rfl
            · split
              · rfl
              · exfalso; apply q; rw [if_neg (by assumption), if_neg (by assumption)]
          rw [q0]
          refine AW.b rfl (fun hc => ?_) (fun hc => ?_)
          · repeat refine AW.s rfl ?_
            try dsimp only [List.set_cons_zero, List.set_cons_succ, Option.toList_some, Option.toList_none, List.cons_append, List.nil_append]
            exact AW.ri rfl rfl rfl ⟨false, rfl, ⟨fun z => (by cases z), fun z => absurd (z.2.2 i hlt) q⟩, rfl⟩
          · exact absurd rfl hc
      · have : i = n := by
          have : ¬ i < n := fun q => hc ((nI_ltI (by omega) (by omega)).mpr q)
          omega
        subst this
        repeat refine AW.s rfl ?_
        try dsimp only [List.set_cons_zero, List.set_cons_succ, Option.toList_some, Option.toList_none, List.cons_append, List.nil_append]
        exact AW.ri rfl rfl rfl ⟨true, rfl, ⟨fun _ => ⟨hn1, hn10, hall⟩, fun _ => rfl⟩, rfl⟩
end
