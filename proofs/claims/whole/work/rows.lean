section
-- ===== PART A: goes FIRST, ahead of the names: the tables' words, and 'selects' of the private methods out of them =====
/-- a private method of a class that the tables say can be made, by its rows of tables_1 -/
def lw_okq (q : MethodName × Nat) : Prop := (q.1.cls ≠ "java/lang/invoke/MethodHandle" ∧ q.1.cls ≠ "java/lang/invoke/VarHandle") ∧ Cond.instantiable q.1.cls q.2 ∈ tables_1 ∧ Cond.privateMethod q.1 ∈ tables_1 ∧ Cond.instanceMethod q.1 ∈ tables_1
theorem lw_p0 : lw_okq (⟨"AfterEachVowel$Tape", "afterBlanks", "(I)I"⟩, 6) := ⟨⟨by decide +kernel, by decide +kernel⟩, List.mem_of_getElem? (i := 116) (by decide +kernel), List.mem_of_getElem? (i := 356) (by decide +kernel), List.mem_of_getElem? (i := 357) (by decide +kernel)⟩
theorem lw_p1 : lw_okq (⟨"AfterEachVowel$Tape", "scanToken", "(I)I"⟩, 6) := ⟨⟨by decide +kernel, by decide +kernel⟩, List.mem_of_getElem? (i := 116) (by decide +kernel), List.mem_of_getElem? (i := 360) (by decide +kernel), List.mem_of_getElem? (i := 361) (by decide +kernel)⟩
theorem lw_p2 : lw_okq (⟨"AfterEachVowel$Tape", "addToken", "(IIII)I"⟩, 6) := ⟨⟨by decide +kernel, by decide +kernel⟩, List.mem_of_getElem? (i := 116) (by decide +kernel), List.mem_of_getElem? (i := 364) (by decide +kernel), List.mem_of_getElem? (i := 365) (by decide +kernel)⟩
theorem lw_p3 : lw_okq (⟨"AfterEachVowel$Tape", "scanWord", "(I)I"⟩, 6) := ⟨⟨by decide +kernel, by decide +kernel⟩, List.mem_of_getElem? (i := 116) (by decide +kernel), List.mem_of_getElem? (i := 368) (by decide +kernel), List.mem_of_getElem? (i := 369) (by decide +kernel)⟩
theorem lw_p4 : lw_okq (⟨"AfterEachVowel$Tape", "isSpelled", "(Ljava/lang/String;II)Z"⟩, 6) := ⟨⟨by decide +kernel, by decide +kernel⟩, List.mem_of_getElem? (i := 116) (by decide +kernel), List.mem_of_getElem? (i := 387) (by decide +kernel), List.mem_of_getElem? (i := 388) (by decide +kernel)⟩
theorem lw_p5 : lw_okq (⟨"AfterEachVowel$Tape", "scanNumber", "(I)I"⟩, 6) := ⟨⟨by decide +kernel, by decide +kernel⟩, List.mem_of_getElem? (i := 116) (by decide +kernel), List.mem_of_getElem? (i := 393) (by decide +kernel), List.mem_of_getElem? (i := 394) (by decide +kernel)⟩
theorem lw_p6 : lw_okq (⟨"AfterEachVowel$Parser", "readPart", "(II)Z"⟩, 4) := ⟨⟨by decide +kernel, by decide +kernel⟩, List.mem_of_getElem? (i := 147) (by decide +kernel), List.mem_of_getElem? (i := 461) (by decide +kernel), List.mem_of_getElem? (i := 462) (by decide +kernel)⟩
theorem lw_p7 : lw_okq (⟨"AfterEachVowel$Parser", "take", "(I)Z"⟩, 4) := ⟨⟨by decide +kernel, by decide +kernel⟩, List.mem_of_getElem? (i := 147) (by decide +kernel), List.mem_of_getElem? (i := 465) (by decide +kernel), List.mem_of_getElem? (i := 466) (by decide +kernel)⟩
theorem lw_p8 : lw_okq (⟨"AfterEachVowel$Parser", "next", "()I"⟩, 4) := ⟨⟨by decide +kernel, by decide +kernel⟩, List.mem_of_getElem? (i := 147) (by decide +kernel), List.mem_of_getElem? (i := 469) (by decide +kernel), List.mem_of_getElem? (i := 470) (by decide +kernel)⟩
theorem lw_p9 : lw_okq (⟨"AfterEachVowel$Parser", "readE", "()I"⟩, 4) := ⟨⟨by decide +kernel, by decide +kernel⟩, List.mem_of_getElem? (i := 147) (by decide +kernel), List.mem_of_getElem? (i := 473) (by decide +kernel), List.mem_of_getElem? (i := 474) (by decide +kernel)⟩
theorem lw_p10 : lw_okq (⟨"AfterEachVowel$Parser", "readAnd", "()I"⟩, 4) := ⟨⟨by decide +kernel, by decide +kernel⟩, List.mem_of_getElem? (i := 147) (by decide +kernel), List.mem_of_getElem? (i := 477) (by decide +kernel), List.mem_of_getElem? (i := 478) (by decide +kernel)⟩
theorem lw_p11 : lw_okq (⟨"AfterEachVowel$Parser", "readNot", "()I"⟩, 4) := ⟨⟨by decide +kernel, by decide +kernel⟩, List.mem_of_getElem? (i := 147) (by decide +kernel), List.mem_of_getElem? (i := 481) (by decide +kernel), List.mem_of_getElem? (i := 482) (by decide +kernel)⟩
theorem lw_p12 : lw_okq (⟨"AfterEachVowel$Parser", "readComparison", "()I"⟩, 4) := ⟨⟨by decide +kernel, by decide +kernel⟩, List.mem_of_getElem? (i := 147) (by decide +kernel), List.mem_of_getElem? (i := 485) (by decide +kernel), List.mem_of_getElem? (i := 486) (by decide +kernel)⟩
theorem lw_p13 : lw_okq (⟨"AfterEachVowel$Parser", "readSum", "()I"⟩, 4) := ⟨⟨by decide +kernel, by decide +kernel⟩, List.mem_of_getElem? (i := 147) (by decide +kernel), List.mem_of_getElem? (i := 489) (by decide +kernel), List.mem_of_getElem? (i := 490) (by decide +kernel)⟩
theorem lw_p14 : lw_okq (⟨"AfterEachVowel$Parser", "readTerm", "()I"⟩, 4) := ⟨⟨by decide +kernel, by decide +kernel⟩, List.mem_of_getElem? (i := 147) (by decide +kernel), List.mem_of_getElem? (i := 493) (by decide +kernel), List.mem_of_getElem? (i := 494) (by decide +kernel)⟩
theorem lw_p15 : lw_okq (⟨"AfterEachVowel$Parser", "readOne", "()I"⟩, 4) := ⟨⟨by decide +kernel, by decide +kernel⟩, List.mem_of_getElem? (i := 147) (by decide +kernel), List.mem_of_getElem? (i := 497) (by decide +kernel), List.mem_of_getElem? (i := 498) (by decide +kernel)⟩
def lw_privs_1 : List (MethodName × Nat) := [(⟨"AfterEachVowel$Tape", "afterBlanks", "(I)I"⟩, 6), (⟨"AfterEachVowel$Tape", "scanToken", "(I)I"⟩, 6), (⟨"AfterEachVowel$Tape", "addToken", "(IIII)I"⟩, 6), (⟨"AfterEachVowel$Tape", "scanWord", "(I)I"⟩, 6), (⟨"AfterEachVowel$Tape", "isSpelled", "(Ljava/lang/String;II)Z"⟩, 6), (⟨"AfterEachVowel$Tape", "scanNumber", "(I)I"⟩, 6), (⟨"AfterEachVowel$Parser", "readPart", "(II)Z"⟩, 4), (⟨"AfterEachVowel$Parser", "take", "(I)Z"⟩, 4), (⟨"AfterEachVowel$Parser", "next", "()I"⟩, 4), (⟨"AfterEachVowel$Parser", "readE", "()I"⟩, 4), (⟨"AfterEachVowel$Parser", "readAnd", "()I"⟩, 4), (⟨"AfterEachVowel$Parser", "readNot", "()I"⟩, 4), (⟨"AfterEachVowel$Parser", "readComparison", "()I"⟩, 4), (⟨"AfterEachVowel$Parser", "readSum", "()I"⟩, 4), (⟨"AfterEachVowel$Parser", "readTerm", "()I"⟩, 4), (⟨"AfterEachVowel$Parser", "readOne", "()I"⟩, 4)]
theorem lw_r1 : ∀ q ∈ lw_privs_1, lw_okq q := List.forall_mem_cons.mpr ⟨lw_p0, List.forall_mem_cons.mpr ⟨lw_p1, List.forall_mem_cons.mpr ⟨lw_p2, List.forall_mem_cons.mpr ⟨lw_p3, List.forall_mem_cons.mpr ⟨lw_p4, List.forall_mem_cons.mpr ⟨lw_p5, List.forall_mem_cons.mpr ⟨lw_p6, List.forall_mem_cons.mpr ⟨lw_p7, List.forall_mem_cons.mpr ⟨lw_p8, List.forall_mem_cons.mpr ⟨lw_p9, List.forall_mem_cons.mpr ⟨lw_p10, List.forall_mem_cons.mpr ⟨lw_p11, List.forall_mem_cons.mpr ⟨lw_p12, List.forall_mem_cons.mpr ⟨lw_p13, List.forall_mem_cons.mpr ⟨lw_p14, List.forall_mem_cons.mpr ⟨lw_p15, fun _ h => absurd h List.not_mem_nil⟩⟩⟩⟩⟩⟩⟩⟩⟩⟩⟩⟩⟩⟩⟩⟩
theorem lw_p16 : lw_okq (⟨"AfterEachVowel$Parser", "readValue", "(I)I"⟩, 4) := ⟨⟨by decide +kernel, by decide +kernel⟩, List.mem_of_getElem? (i := 147) (by decide +kernel), List.mem_of_getElem? (i := 501) (by decide +kernel), List.mem_of_getElem? (i := 502) (by decide +kernel)⟩
theorem lw_p17 : lw_okq (⟨"AfterEachVowel$Parser", "takeOpening", "()Z"⟩, 4) := ⟨⟨by decide +kernel, by decide +kernel⟩, List.mem_of_getElem? (i := 147) (by decide +kernel), List.mem_of_getElem? (i := 509) (by decide +kernel), List.mem_of_getElem? (i := 510) (by decide +kernel)⟩
theorem lw_p18 : lw_okq (⟨"AfterEachVowel$Parser", "closed", "(II)I"⟩, 4) := ⟨⟨by decide +kernel, by decide +kernel⟩, List.mem_of_getElem? (i := 147) (by decide +kernel), List.mem_of_getElem? (i := 513) (by decide +kernel), List.mem_of_getElem? (i := 514) (by decide +kernel)⟩
theorem lw_p19 : lw_okq (⟨"AfterEachVowel$Parser", "readToClosing", "()I"⟩, 4) := ⟨⟨by decide +kernel, by decide +kernel⟩, List.mem_of_getElem? (i := 147) (by decide +kernel), List.mem_of_getElem? (i := 517) (by decide +kernel), List.mem_of_getElem? (i := 518) (by decide +kernel)⟩
theorem lw_p20 : lw_okq (⟨"AfterEachVowel$Parser", "joined", "(III)I"⟩, 4) := ⟨⟨by decide +kernel, by decide +kernel⟩, List.mem_of_getElem? (i := 147) (by decide +kernel), List.mem_of_getElem? (i := 521) (by decide +kernel), List.mem_of_getElem? (i := 522) (by decide +kernel)⟩
theorem lw_p21 : lw_okq (⟨"AfterEachVowel$Parser", "place", "()I"⟩, 4) := ⟨⟨by decide +kernel, by decide +kernel⟩, List.mem_of_getElem? (i := 147) (by decide +kernel), List.mem_of_getElem? (i := 529) (by decide +kernel), List.mem_of_getElem? (i := 530) (by decide +kernel)⟩
theorem lw_p22 : lw_okq (⟨"AfterEachVowel$Saying", "putAfterVowels", "(II)V"⟩, 2) := ⟨⟨by decide +kernel, by decide +kernel⟩, List.mem_of_getElem? (i := 175) (by decide +kernel), List.mem_of_getElem? (i := 707) (by decide +kernel), List.mem_of_getElem? (i := 708) (by decide +kernel)⟩
theorem lw_p23 : lw_okq (⟨"AfterEachVowel$Saying", "shift", "(I)V"⟩, 2) := ⟨⟨by decide +kernel, by decide +kernel⟩, List.mem_of_getElem? (i := 175) (by decide +kernel), List.mem_of_getElem? (i := 715) (by decide +kernel), List.mem_of_getElem? (i := 716) (by decide +kernel)⟩
theorem lw_p24 : lw_okq (⟨"AfterEachVowel$Saying", "repeatFirst", "()V"⟩, 2) := ⟨⟨by decide +kernel, by decide +kernel⟩, List.mem_of_getElem? (i := 175) (by decide +kernel), List.mem_of_getElem? (i := 719) (by decide +kernel), List.mem_of_getElem? (i := 720) (by decide +kernel)⟩
theorem lw_p25 : lw_okq (⟨"AfterEachVowel$Saying", "shiftVowels", "(II)V"⟩, 2) := ⟨⟨by decide +kernel, by decide +kernel⟩, List.mem_of_getElem? (i := 175) (by decide +kernel), List.mem_of_getElem? (i := 723) (by decide +kernel), List.mem_of_getElem? (i := 724) (by decide +kernel)⟩
theorem lw_p26 : lw_okq (⟨"AfterEachVowel$Saying", "reverse", "()V"⟩, 2) := ⟨⟨by decide +kernel, by decide +kernel⟩, List.mem_of_getElem? (i := 175) (by decide +kernel), List.mem_of_getElem? (i := 727) (by decide +kernel), List.mem_of_getElem? (i := 728) (by decide +kernel)⟩
theorem lw_p27 : lw_okq (⟨"AfterEachVowel", "judged", "(II)I"⟩, 13) := ⟨⟨by decide +kernel, by decide +kernel⟩, List.mem_of_getElem? (i := 21) (by decide +kernel), List.mem_of_getElem? (i := 747) (by decide +kernel), List.mem_of_getElem? (i := 748) (by decide +kernel)⟩
theorem lw_p28 : lw_okq (⟨"AfterEachVowel", "law", "()LAfterEachVowel$Text;"⟩, 13) := ⟨⟨by decide +kernel, by decide +kernel⟩, List.mem_of_getElem? (i := 21) (by decide +kernel), List.mem_of_getElem? (i := 761) (by decide +kernel), List.mem_of_getElem? (i := 762) (by decide +kernel)⟩
theorem lw_p29 : lw_okq (⟨"AfterEachVowel$Text", "worked", "(III[I)I"⟩, 6) := ⟨⟨by decide +kernel, by decide +kernel⟩, List.mem_of_getElem? (i := 250) (by decide +kernel), List.mem_of_getElem? (i := 773) (by decide +kernel), List.mem_of_getElem? (i := 774) (by decide +kernel)⟩
theorem lw_p30 : lw_okq (⟨"AfterEachVowel", "roundOf", "(I)I"⟩, 13) := ⟨⟨by decide +kernel, by decide +kernel⟩, List.mem_of_getElem? (i := 21) (by decide +kernel), List.mem_of_getElem? (i := 784) (by decide +kernel), List.mem_of_getElem? (i := 785) (by decide +kernel)⟩
theorem lw_p31 : lw_okq (⟨"AfterEachVowel", "safeLetters", "(I)I"⟩, 13) := ⟨⟨by decide +kernel, by decide +kernel⟩, List.mem_of_getElem? (i := 21) (by decide +kernel), List.mem_of_getElem? (i := 794) (by decide +kernel), List.mem_of_getElem? (i := 795) (by decide +kernel)⟩
def lw_privs_2 : List (MethodName × Nat) := [(⟨"AfterEachVowel$Parser", "readValue", "(I)I"⟩, 4), (⟨"AfterEachVowel$Parser", "takeOpening", "()Z"⟩, 4), (⟨"AfterEachVowel$Parser", "closed", "(II)I"⟩, 4), (⟨"AfterEachVowel$Parser", "readToClosing", "()I"⟩, 4), (⟨"AfterEachVowel$Parser", "joined", "(III)I"⟩, 4), (⟨"AfterEachVowel$Parser", "place", "()I"⟩, 4), (⟨"AfterEachVowel$Saying", "putAfterVowels", "(II)V"⟩, 2), (⟨"AfterEachVowel$Saying", "shift", "(I)V"⟩, 2), (⟨"AfterEachVowel$Saying", "repeatFirst", "()V"⟩, 2), (⟨"AfterEachVowel$Saying", "shiftVowels", "(II)V"⟩, 2), (⟨"AfterEachVowel$Saying", "reverse", "()V"⟩, 2), (⟨"AfterEachVowel", "judged", "(II)I"⟩, 13), (⟨"AfterEachVowel", "law", "()LAfterEachVowel$Text;"⟩, 13), (⟨"AfterEachVowel$Text", "worked", "(III[I)I"⟩, 6), (⟨"AfterEachVowel", "roundOf", "(I)I"⟩, 13), (⟨"AfterEachVowel", "safeLetters", "(I)I"⟩, 13)]
theorem lw_r2 : ∀ q ∈ lw_privs_2, lw_okq q := List.forall_mem_cons.mpr ⟨lw_p16, List.forall_mem_cons.mpr ⟨lw_p17, List.forall_mem_cons.mpr ⟨lw_p18, List.forall_mem_cons.mpr ⟨lw_p19, List.forall_mem_cons.mpr ⟨lw_p20, List.forall_mem_cons.mpr ⟨lw_p21, List.forall_mem_cons.mpr ⟨lw_p22, List.forall_mem_cons.mpr ⟨lw_p23, List.forall_mem_cons.mpr ⟨lw_p24, List.forall_mem_cons.mpr ⟨lw_p25, List.forall_mem_cons.mpr ⟨lw_p26, List.forall_mem_cons.mpr ⟨lw_p27, List.forall_mem_cons.mpr ⟨lw_p28, List.forall_mem_cons.mpr ⟨lw_p29, List.forall_mem_cons.mpr ⟨lw_p30, List.forall_mem_cons.mpr ⟨lw_p31, fun _ h => absurd h List.not_mem_nil⟩⟩⟩⟩⟩⟩⟩⟩⟩⟩⟩⟩⟩⟩⟩⟩
theorem lw_p32 : lw_okq (⟨"AfterEachVowel", "isSafe", "(II)Z"⟩, 13) := ⟨⟨by decide +kernel, by decide +kernel⟩, List.mem_of_getElem? (i := 21) (by decide +kernel), List.mem_of_getElem? (i := 804) (by decide +kernel), List.mem_of_getElem? (i := 805) (by decide +kernel)⟩
theorem lw_p33 : lw_okq (⟨"AfterEachVowel", "worthBy", "(LAfterEachVowel$Row;)I"⟩, 13) := ⟨⟨by decide +kernel, by decide +kernel⟩, List.mem_of_getElem? (i := 21) (by decide +kernel), List.mem_of_getElem? (i := 820) (by decide +kernel), List.mem_of_getElem? (i := 821) (by decide +kernel)⟩
theorem lw_p34 : lw_okq (⟨"AfterEachVowel", "idleRules", "()I"⟩, 13) := ⟨⟨by decide +kernel, by decide +kernel⟩, List.mem_of_getElem? (i := 21) (by decide +kernel), List.mem_of_getElem? (i := 846) (by decide +kernel), List.mem_of_getElem? (i := 847) (by decide +kernel)⟩
theorem lw_p35 : lw_okq (⟨"AfterEachVowel", "isIdle", "(I)Z"⟩, 13) := ⟨⟨by decide +kernel, by decide +kernel⟩, List.mem_of_getElem? (i := 21) (by decide +kernel), List.mem_of_getElem? (i := 850) (by decide +kernel), List.mem_of_getElem? (i := 851) (by decide +kernel)⟩
theorem lw_p36 : lw_okq (⟨"AfterEachVowel$Orders", "goOn", "(LAfterEachVowel$State;LAfterEachVowel$Text;III)V"⟩, 6) := ⟨⟨by decide +kernel, by decide +kernel⟩, List.mem_of_getElem? (i := 217) (by decide +kernel), List.mem_of_getElem? (i := 880) (by decide +kernel), List.mem_of_getElem? (i := 881) (by decide +kernel)⟩
theorem lw_p37 : lw_okq (⟨"AfterEachVowel$Orders", "keepBetter", "(II)V"⟩, 6) := ⟨⟨by decide +kernel, by decide +kernel⟩, List.mem_of_getElem? (i := 217) (by decide +kernel), List.mem_of_getElem? (i := 885) (by decide +kernel), List.mem_of_getElem? (i := 886) (by decide +kernel)⟩
theorem lw_p38 : lw_okq (⟨"AfterEachVowel", "wordsSaidAs", "(LAfterEachVowel$Sheet;)I"⟩, 13) := ⟨⟨by decide +kernel, by decide +kernel⟩, List.mem_of_getElem? (i := 21) (by decide +kernel), List.mem_of_getElem? (i := 907) (by decide +kernel), List.mem_of_getElem? (i := 908) (by decide +kernel)⟩
theorem lw_p39 : lw_okq (⟨"AfterEachVowel", "rulesTurningTo", "(LAfterEachVowel$Sheet;)I"⟩, 13) := ⟨⟨by decide +kernel, by decide +kernel⟩, List.mem_of_getElem? (i := 21) (by decide +kernel), List.mem_of_getElem? (i := 916) (by decide +kernel), List.mem_of_getElem? (i := 917) (by decide +kernel)⟩
theorem lw_p40 : lw_okq (⟨"AfterEachVowel", "wordsTurningTo", "(LAfterEachVowel$Sheet;I)I"⟩, 13) := ⟨⟨by decide +kernel, by decide +kernel⟩, List.mem_of_getElem? (i := 21) (by decide +kernel), List.mem_of_getElem? (i := 920) (by decide +kernel), List.mem_of_getElem? (i := 921) (by decide +kernel)⟩
theorem lw_p41 : lw_okq (⟨"AfterEachVowel", "pairsTurningTo", "(LAfterEachVowel$Sheet;)I"⟩, 13) := ⟨⟨by decide +kernel, by decide +kernel⟩, List.mem_of_getElem? (i := 21) (by decide +kernel), List.mem_of_getElem? (i := 924) (by decide +kernel), List.mem_of_getElem? (i := 925) (by decide +kernel)⟩
theorem lw_p42 : lw_okq (⟨"AfterEachVowel", "fitting", "(LAfterEachVowel$Sheet;I[III)I"⟩, 13) := ⟨⟨by decide +kernel, by decide +kernel⟩, List.mem_of_getElem? (i := 21) (by decide +kernel), List.mem_of_getElem? (i := 932) (by decide +kernel), List.mem_of_getElem? (i := 933) (by decide +kernel)⟩
theorem lw_p43 : lw_okq (⟨"AfterEachVowelModel", "isRule", "(I)Z"⟩, 45) := ⟨⟨by decide +kernel, by decide +kernel⟩, List.mem_of_getElem? (i := 1050) (by decide +kernel), List.mem_of_getElem? (i := 1048) (by decide +kernel), List.mem_of_getElem? (i := 1049) (by decide +kernel)⟩
theorem lw_p44 : lw_okq (⟨"AfterEachVowelModel", "isWord", "(I)Z"⟩, 45) := ⟨⟨by decide +kernel, by decide +kernel⟩, List.mem_of_getElem? (i := 1050) (by decide +kernel), List.mem_of_getElem? (i := 1061) (by decide +kernel), List.mem_of_getElem? (i := 1062) (by decide +kernel)⟩
theorem lw_p45 : lw_okq (⟨"AfterEachVowelModel", "readAll", "(I)I"⟩, 45) := ⟨⟨by decide +kernel, by decide +kernel⟩, List.mem_of_getElem? (i := 1050) (by decide +kernel), List.mem_of_getElem? (i := 1079) (by decide +kernel), List.mem_of_getElem? (i := 1080) (by decide +kernel)⟩
theorem lw_p46 : lw_okq (⟨"AfterEachVowelModel", "next", "()V"⟩, 45) := ⟨⟨by decide +kernel, by decide +kernel⟩, List.mem_of_getElem? (i := 1050) (by decide +kernel), List.mem_of_getElem? (i := 1083) (by decide +kernel), List.mem_of_getElem? (i := 1084) (by decide +kernel)⟩
theorem lw_p47 : lw_okq (⟨"AfterEachVowelModel", "isLetter", "(I)Z"⟩, 45) := ⟨⟨by decide +kernel, by decide +kernel⟩, List.mem_of_getElem? (i := 1050) (by decide +kernel), List.mem_of_getElem? (i := 1087) (by decide +kernel), List.mem_of_getElem? (i := 1088) (by decide +kernel)⟩
def lw_privs_3 : List (MethodName × Nat) := [(⟨"AfterEachVowel", "isSafe", "(II)Z"⟩, 13), (⟨"AfterEachVowel", "worthBy", "(LAfterEachVowel$Row;)I"⟩, 13), (⟨"AfterEachVowel", "idleRules", "()I"⟩, 13), (⟨"AfterEachVowel", "isIdle", "(I)Z"⟩, 13), (⟨"AfterEachVowel$Orders", "goOn", "(LAfterEachVowel$State;LAfterEachVowel$Text;III)V"⟩, 6), (⟨"AfterEachVowel$Orders", "keepBetter", "(II)V"⟩, 6), (⟨"AfterEachVowel", "wordsSaidAs", "(LAfterEachVowel$Sheet;)I"⟩, 13), (⟨"AfterEachVowel", "rulesTurningTo", "(LAfterEachVowel$Sheet;)I"⟩, 13), (⟨"AfterEachVowel", "wordsTurningTo", "(LAfterEachVowel$Sheet;I)I"⟩, 13), (⟨"AfterEachVowel", "pairsTurningTo", "(LAfterEachVowel$Sheet;)I"⟩, 13), (⟨"AfterEachVowel", "fitting", "(LAfterEachVowel$Sheet;I[III)I"⟩, 13), (⟨"AfterEachVowelModel", "isRule", "(I)Z"⟩, 45), (⟨"AfterEachVowelModel", "isWord", "(I)Z"⟩, 45), (⟨"AfterEachVowelModel", "readAll", "(I)I"⟩, 45), (⟨"AfterEachVowelModel", "next", "()V"⟩, 45), (⟨"AfterEachVowelModel", "isLetter", "(I)Z"⟩, 45)]
theorem lw_r3 : ∀ q ∈ lw_privs_3, lw_okq q := List.forall_mem_cons.mpr ⟨lw_p32, List.forall_mem_cons.mpr ⟨lw_p33, List.forall_mem_cons.mpr ⟨lw_p34, List.forall_mem_cons.mpr ⟨lw_p35, List.forall_mem_cons.mpr ⟨lw_p36, List.forall_mem_cons.mpr ⟨lw_p37, List.forall_mem_cons.mpr ⟨lw_p38, List.forall_mem_cons.mpr ⟨lw_p39, List.forall_mem_cons.mpr ⟨lw_p40, List.forall_mem_cons.mpr ⟨lw_p41, List.forall_mem_cons.mpr ⟨lw_p42, List.forall_mem_cons.mpr ⟨lw_p43, List.forall_mem_cons.mpr ⟨lw_p44, List.forall_mem_cons.mpr ⟨lw_p45, List.forall_mem_cons.mpr ⟨lw_p46, List.forall_mem_cons.mpr ⟨lw_p47, fun _ h => absurd h List.not_mem_nil⟩⟩⟩⟩⟩⟩⟩⟩⟩⟩⟩⟩⟩⟩⟩⟩
theorem lw_p48 : lw_okq (⟨"AfterEachVowelModel", "readWord", "()V"⟩, 45) := ⟨⟨by decide +kernel, by decide +kernel⟩, List.mem_of_getElem? (i := 1050) (by decide +kernel), List.mem_of_getElem? (i := 1091) (by decide +kernel), List.mem_of_getElem? (i := 1092) (by decide +kernel)⟩
theorem lw_p49 : lw_okq (⟨"AfterEachVowelModel", "isDigit", "(I)Z"⟩, 45) := ⟨⟨by decide +kernel, by decide +kernel⟩, List.mem_of_getElem? (i := 1050) (by decide +kernel), List.mem_of_getElem? (i := 1095) (by decide +kernel), List.mem_of_getElem? (i := 1096) (by decide +kernel)⟩
theorem lw_p50 : lw_okq (⟨"AfterEachVowelModel", "readNumber", "()V"⟩, 45) := ⟨⟨by decide +kernel, by decide +kernel⟩, List.mem_of_getElem? (i := 1050) (by decide +kernel), List.mem_of_getElem? (i := 1099) (by decide +kernel), List.mem_of_getElem? (i := 1100) (by decide +kernel)⟩
theorem lw_p51 : lw_okq (⟨"AfterEachVowelModel", "isKey", "(I)Z"⟩, 45) := ⟨⟨by decide +kernel, by decide +kernel⟩, List.mem_of_getElem? (i := 1050) (by decide +kernel), List.mem_of_getElem? (i := 1103) (by decide +kernel), List.mem_of_getElem? (i := 1104) (by decide +kernel)⟩
theorem lw_p52 : lw_okq (⟨"AfterEachVowelModel", "readE", "(I)Z"⟩, 45) := ⟨⟨by decide +kernel, by decide +kernel⟩, List.mem_of_getElem? (i := 1050) (by decide +kernel), List.mem_of_getElem? (i := 1107) (by decide +kernel), List.mem_of_getElem? (i := 1108) (by decide +kernel)⟩
theorem lw_p53 : lw_okq (⟨"AfterEachVowelModel", "emit", "(I)V"⟩, 45) := ⟨⟨by decide +kernel, by decide +kernel⟩, List.mem_of_getElem? (i := 1050) (by decide +kernel), List.mem_of_getElem? (i := 1111) (by decide +kernel), List.mem_of_getElem? (i := 1112) (by decide +kernel)⟩
theorem lw_p54 : lw_okq (⟨"AfterEachVowelModel", "doAll", "(I)V"⟩, 45) := ⟨⟨by decide +kernel, by decide +kernel⟩, List.mem_of_getElem? (i := 1050) (by decide +kernel), List.mem_of_getElem? (i := 1115) (by decide +kernel), List.mem_of_getElem? (i := 1116) (by decide +kernel)⟩
theorem lw_p55 : lw_okq (⟨"AfterEachVowelModel", "isSign", "(I)Z"⟩, 45) := ⟨⟨by decide +kernel, by decide +kernel⟩, List.mem_of_getElem? (i := 1050) (by decide +kernel), List.mem_of_getElem? (i := 1122) (by decide +kernel), List.mem_of_getElem? (i := 1123) (by decide +kernel)⟩
theorem lw_p56 : lw_okq (⟨"AfterEachVowelModel", "ahead", "(Z)Z"⟩, 45) := ⟨⟨by decide +kernel, by decide +kernel⟩, List.mem_of_getElem? (i := 1050) (by decide +kernel), List.mem_of_getElem? (i := 1126) (by decide +kernel), List.mem_of_getElem? (i := 1127) (by decide +kernel)⟩
theorem lw_p57 : lw_okq (⟨"AfterEachVowelModel", "await", "(I)V"⟩, 45) := ⟨⟨by decide +kernel, by decide +kernel⟩, List.mem_of_getElem? (i := 1050) (by decide +kernel), List.mem_of_getElem? (i := 1130) (by decide +kernel), List.mem_of_getElem? (i := 1131) (by decide +kernel)⟩
theorem lw_p58 : lw_okq (⟨"AfterEachVowelModel", "between", "()Z"⟩, 45) := ⟨⟨by decide +kernel, by decide +kernel⟩, List.mem_of_getElem? (i := 1050) (by decide +kernel), List.mem_of_getElem? (i := 1134) (by decide +kernel), List.mem_of_getElem? (i := 1135) (by decide +kernel)⟩
theorem lw_p59 : lw_okq (⟨"AfterEachVowelModel", "closes", "()Z"⟩, 45) := ⟨⟨by decide +kernel, by decide +kernel⟩, List.mem_of_getElem? (i := 1050) (by decide +kernel), List.mem_of_getElem? (i := 1138) (by decide +kernel), List.mem_of_getElem? (i := 1139) (by decide +kernel)⟩
theorem lw_p60 : lw_okq (⟨"AfterEachVowelModel", "say", "(I)V"⟩, 45) := ⟨⟨by decide +kernel, by decide +kernel⟩, List.mem_of_getElem? (i := 1050) (by decide +kernel), List.mem_of_getElem? (i := 1294) (by decide +kernel), List.mem_of_getElem? (i := 1295) (by decide +kernel)⟩
theorem lw_p61 : lw_okq (⟨"AfterEachVowelModel", "begin", "(I)V"⟩, 45) := ⟨⟨by decide +kernel, by decide +kernel⟩, List.mem_of_getElem? (i := 1050) (by decide +kernel), List.mem_of_getElem? (i := 1298) (by decide +kernel), List.mem_of_getElem? (i := 1299) (by decide +kernel)⟩
theorem lw_p62 : lw_okq (⟨"AfterEachVowelModel", "turnByRow", "()V"⟩, 45) := ⟨⟨by decide +kernel, by decide +kernel⟩, List.mem_of_getElem? (i := 1050) (by decide +kernel), List.mem_of_getElem? (i := 1302) (by decide +kernel), List.mem_of_getElem? (i := 1303) (by decide +kernel)⟩
theorem lw_p63 : lw_okq (⟨"AfterEachVowelModel", "turn", "(I)V"⟩, 45) := ⟨⟨by decide +kernel, by decide +kernel⟩, List.mem_of_getElem? (i := 1050) (by decide +kernel), List.mem_of_getElem? (i := 1306) (by decide +kernel), List.mem_of_getElem? (i := 1307) (by decide +kernel)⟩
def lw_privs_4 : List (MethodName × Nat) := [(⟨"AfterEachVowelModel", "readWord", "()V"⟩, 45), (⟨"AfterEachVowelModel", "isDigit", "(I)Z"⟩, 45), (⟨"AfterEachVowelModel", "readNumber", "()V"⟩, 45), (⟨"AfterEachVowelModel", "isKey", "(I)Z"⟩, 45), (⟨"AfterEachVowelModel", "readE", "(I)Z"⟩, 45), (⟨"AfterEachVowelModel", "emit", "(I)V"⟩, 45), (⟨"AfterEachVowelModel", "doAll", "(I)V"⟩, 45), (⟨"AfterEachVowelModel", "isSign", "(I)Z"⟩, 45), (⟨"AfterEachVowelModel", "ahead", "(Z)Z"⟩, 45), (⟨"AfterEachVowelModel", "await", "(I)V"⟩, 45), (⟨"AfterEachVowelModel", "between", "()Z"⟩, 45), (⟨"AfterEachVowelModel", "closes", "()Z"⟩, 45), (⟨"AfterEachVowelModel", "say", "(I)V"⟩, 45), (⟨"AfterEachVowelModel", "begin", "(I)V"⟩, 45), (⟨"AfterEachVowelModel", "turnByRow", "()V"⟩, 45), (⟨"AfterEachVowelModel", "turn", "(I)V"⟩, 45)]
theorem lw_r4 : ∀ q ∈ lw_privs_4, lw_okq q := List.forall_mem_cons.mpr ⟨lw_p48, List.forall_mem_cons.mpr ⟨lw_p49, List.forall_mem_cons.mpr ⟨lw_p50, List.forall_mem_cons.mpr ⟨lw_p51, List.forall_mem_cons.mpr ⟨lw_p52, List.forall_mem_cons.mpr ⟨lw_p53, List.forall_mem_cons.mpr ⟨lw_p54, List.forall_mem_cons.mpr ⟨lw_p55, List.forall_mem_cons.mpr ⟨lw_p56, List.forall_mem_cons.mpr ⟨lw_p57, List.forall_mem_cons.mpr ⟨lw_p58, List.forall_mem_cons.mpr ⟨lw_p59, List.forall_mem_cons.mpr ⟨lw_p60, List.forall_mem_cons.mpr ⟨lw_p61, List.forall_mem_cons.mpr ⟨lw_p62, List.forall_mem_cons.mpr ⟨lw_p63, fun _ h => absurd h List.not_mem_nil⟩⟩⟩⟩⟩⟩⟩⟩⟩⟩⟩⟩⟩⟩⟩⟩
theorem lw_p64 : lw_okq (⟨"AfterEachVowelModel", "isVowel", "(I)Z"⟩, 45) := ⟨⟨by decide +kernel, by decide +kernel⟩, List.mem_of_getElem? (i := 1050) (by decide +kernel), List.mem_of_getElem? (i := 1310) (by decide +kernel), List.mem_of_getElem? (i := 1311) (by decide +kernel)⟩
theorem lw_p65 : lw_okq (⟨"AfterEachVowelModel", "round", "(I)I"⟩, 45) := ⟨⟨by decide +kernel, by decide +kernel⟩, List.mem_of_getElem? (i := 1050) (by decide +kernel), List.mem_of_getElem? (i := 1325) (by decide +kernel), List.mem_of_getElem? (i := 1326) (by decide +kernel)⟩
theorem lw_p66 : lw_okq (⟨"AfterEachVowelModel", "isAsItWas", "(I)Z"⟩, 45) := ⟨⟨by decide +kernel, by decide +kernel⟩, List.mem_of_getElem? (i := 1050) (by decide +kernel), List.mem_of_getElem? (i := 1329) (by decide +kernel), List.mem_of_getElem? (i := 1330) (by decide +kernel)⟩
theorem lw_p67 : lw_okq (⟨"AfterEachVowelModel", "safe", "(I)I"⟩, 45) := ⟨⟨by decide +kernel, by decide +kernel⟩, List.mem_of_getElem? (i := 1050) (by decide +kernel), List.mem_of_getElem? (i := 1333) (by decide +kernel), List.mem_of_getElem? (i := 1334) (by decide +kernel)⟩
theorem lw_p68 : lw_okq (⟨"AfterEachVowelModel", "sayAll", "()V"⟩, 45) := ⟨⟨by decide +kernel, by decide +kernel⟩, List.mem_of_getElem? (i := 1050) (by decide +kernel), List.mem_of_getElem? (i := 1337) (by decide +kernel), List.mem_of_getElem? (i := 1338) (by decide +kernel)⟩
theorem lw_p69 : lw_okq (⟨"AfterEachVowelModel", "alike", "()I"⟩, 45) := ⟨⟨by decide +kernel, by decide +kernel⟩, List.mem_of_getElem? (i := 1050) (by decide +kernel), List.mem_of_getElem? (i := 1341) (by decide +kernel), List.mem_of_getElem? (i := 1342) (by decide +kernel)⟩
theorem lw_p70 : lw_okq (⟨"AfterEachVowelModel", "isAlike", "(II)Z"⟩, 45) := ⟨⟨by decide +kernel, by decide +kernel⟩, List.mem_of_getElem? (i := 1050) (by decide +kernel), List.mem_of_getElem? (i := 1345) (by decide +kernel), List.mem_of_getElem? (i := 1346) (by decide +kernel)⟩
theorem lw_p71 : lw_okq (⟨"AfterEachVowelModel", "hardOf", "(I)I"⟩, 45) := ⟨⟨by decide +kernel, by decide +kernel⟩, List.mem_of_getElem? (i := 1050) (by decide +kernel), List.mem_of_getElem? (i := 1349) (by decide +kernel), List.mem_of_getElem? (i := 1350) (by decide +kernel)⟩
theorem lw_p72 : lw_okq (⟨"AfterEachVowelModel", "says", "(II)I"⟩, 45) := ⟨⟨by decide +kernel, by decide +kernel⟩, List.mem_of_getElem? (i := 1050) (by decide +kernel), List.mem_of_getElem? (i := 1353) (by decide +kernel), List.mem_of_getElem? (i := 1354) (by decide +kernel)⟩
theorem lw_p73 : lw_okq (⟨"AfterEachVowelModel", "worthNow", "()I"⟩, 45) := ⟨⟨by decide +kernel, by decide +kernel⟩, List.mem_of_getElem? (i := 1050) (by decide +kernel), List.mem_of_getElem? (i := 1367) (by decide +kernel), List.mem_of_getElem? (i := 1368) (by decide +kernel)⟩
theorem lw_p74 : lw_okq (⟨"AfterEachVowelModel", "apart", "()I"⟩, 45) := ⟨⟨by decide +kernel, by decide +kernel⟩, List.mem_of_getElem? (i := 1050) (by decide +kernel), List.mem_of_getElem? (i := 1371) (by decide +kernel), List.mem_of_getElem? (i := 1372) (by decide +kernel)⟩
theorem lw_p75 : lw_okq (⟨"AfterEachVowelModel", "idle", "()I"⟩, 45) := ⟨⟨by decide +kernel, by decide +kernel⟩, List.mem_of_getElem? (i := 1050) (by decide +kernel), List.mem_of_getElem? (i := 1375) (by decide +kernel), List.mem_of_getElem? (i := 1376) (by decide +kernel)⟩
theorem lw_p76 : lw_okq (⟨"AfterEachVowelModel", "layBy", "()V"⟩, 45) := ⟨⟨by decide +kernel, by decide +kernel⟩, List.mem_of_getElem? (i := 1050) (by decide +kernel), List.mem_of_getElem? (i := 1383) (by decide +kernel), List.mem_of_getElem? (i := 1384) (by decide +kernel)⟩
theorem lw_p77 : lw_okq (⟨"AfterEachVowelModel", "layBack", "()V"⟩, 45) := ⟨⟨by decide +kernel, by decide +kernel⟩, List.mem_of_getElem? (i := 1050) (by decide +kernel), List.mem_of_getElem? (i := 1387) (by decide +kernel), List.mem_of_getElem? (i := 1388) (by decide +kernel)⟩
theorem lw_p78 : lw_okq (⟨"AfterEachVowelModel", "next", "(I)Z"⟩, 45) := ⟨⟨by decide +kernel, by decide +kernel⟩, List.mem_of_getElem? (i := 1050) (by decide +kernel), List.mem_of_getElem? (i := 1395) (by decide +kernel), List.mem_of_getElem? (i := 1396) (by decide +kernel)⟩
theorem lw_p79 : lw_okq (⟨"AfterEachVowelModel", "swap", "(II)V"⟩, 45) := ⟨⟨by decide +kernel, by decide +kernel⟩, List.mem_of_getElem? (i := 1050) (by decide +kernel), List.mem_of_getElem? (i := 1399) (by decide +kernel), List.mem_of_getElem? (i := 1400) (by decide +kernel)⟩
def lw_privs_5 : List (MethodName × Nat) := [(⟨"AfterEachVowelModel", "isVowel", "(I)Z"⟩, 45), (⟨"AfterEachVowelModel", "round", "(I)I"⟩, 45), (⟨"AfterEachVowelModel", "isAsItWas", "(I)Z"⟩, 45), (⟨"AfterEachVowelModel", "safe", "(I)I"⟩, 45), (⟨"AfterEachVowelModel", "sayAll", "()V"⟩, 45), (⟨"AfterEachVowelModel", "alike", "()I"⟩, 45), (⟨"AfterEachVowelModel", "isAlike", "(II)Z"⟩, 45), (⟨"AfterEachVowelModel", "hardOf", "(I)I"⟩, 45), (⟨"AfterEachVowelModel", "says", "(II)I"⟩, 45), (⟨"AfterEachVowelModel", "worthNow", "()I"⟩, 45), (⟨"AfterEachVowelModel", "apart", "()I"⟩, 45), (⟨"AfterEachVowelModel", "idle", "()I"⟩, 45), (⟨"AfterEachVowelModel", "layBy", "()V"⟩, 45), (⟨"AfterEachVowelModel", "layBack", "()V"⟩, 45), (⟨"AfterEachVowelModel", "next", "(I)Z"⟩, 45), (⟨"AfterEachVowelModel", "swap", "(II)V"⟩, 45)]
theorem lw_r5 : ∀ q ∈ lw_privs_5, lw_okq q := List.forall_mem_cons.mpr ⟨lw_p64, List.forall_mem_cons.mpr ⟨lw_p65, List.forall_mem_cons.mpr ⟨lw_p66, List.forall_mem_cons.mpr ⟨lw_p67, List.forall_mem_cons.mpr ⟨lw_p68, List.forall_mem_cons.mpr ⟨lw_p69, List.forall_mem_cons.mpr ⟨lw_p70, List.forall_mem_cons.mpr ⟨lw_p71, List.forall_mem_cons.mpr ⟨lw_p72, List.forall_mem_cons.mpr ⟨lw_p73, List.forall_mem_cons.mpr ⟨lw_p74, List.forall_mem_cons.mpr ⟨lw_p75, List.forall_mem_cons.mpr ⟨lw_p76, List.forall_mem_cons.mpr ⟨lw_p77, List.forall_mem_cons.mpr ⟨lw_p78, List.forall_mem_cons.mpr ⟨lw_p79, fun _ h => absurd h List.not_mem_nil⟩⟩⟩⟩⟩⟩⟩⟩⟩⟩⟩⟩⟩⟩⟩⟩
theorem lw_p80 : lw_okq (⟨"AfterEachVowelModel", "isHeard", "(I)Z"⟩, 45) := ⟨⟨by decide +kernel, by decide +kernel⟩, List.mem_of_getElem? (i := 1050) (by decide +kernel), List.mem_of_getElem? (i := 1411) (by decide +kernel), List.mem_of_getElem? (i := 1412) (by decide +kernel)⟩
theorem lw_p81 : lw_okq (⟨"AfterEachVowelModel", "drawRow", "(I)V"⟩, 45) := ⟨⟨by decide +kernel, by decide +kernel⟩, List.mem_of_getElem? (i := 1050) (by decide +kernel), List.mem_of_getElem? (i := 1435) (by decide +kernel), List.mem_of_getElem? (i := 1436) (by decide +kernel)⟩
def lw_privs_6 : List (MethodName × Nat) := [(⟨"AfterEachVowelModel", "isHeard", "(I)Z"⟩, 45), (⟨"AfterEachVowelModel", "drawRow", "(I)V"⟩, 45)]
theorem lw_r6 : ∀ q ∈ lw_privs_6, lw_okq q := List.forall_mem_cons.mpr ⟨lw_p80, List.forall_mem_cons.mpr ⟨lw_p81, fun _ h => absurd h List.not_mem_nil⟩⟩
def lw_privs : List (MethodName × Nat) := lw_privs_1 ++ (lw_privs_2 ++ (lw_privs_3 ++ (lw_privs_4 ++ (lw_privs_5 ++ (lw_privs_6)))))
def lw_tbl : List Cond := k2_sels lw_privs ++ tables_1
theorem lw_privs_ok : ∀ q ∈ lw_privs, lw_okq q := by
  show ∀ q ∈ lw_privs_1 ++ (lw_privs_2 ++ (lw_privs_3 ++ (lw_privs_4 ++ (lw_privs_5 ++ (lw_privs_6))))), lw_okq q
  exact List.forall_mem_append.mpr ⟨lw_r1, List.forall_mem_append.mpr ⟨lw_r2, List.forall_mem_append.mpr ⟨lw_r3, List.forall_mem_append.mpr ⟨lw_r4, List.forall_mem_append.mpr ⟨lw_r5, lw_r6⟩⟩⟩⟩⟩
def RX0 : String := "AfterEachVowel$Judge"
def TX0 : u_T := fun k => match k with
  | _ => ("AfterEachVowel$Judge", "facts", "[I", true)
def tyX0 : Nat → FieldType := fun k => match k with
  | _ => .array .int
abbrev wsX00 : List Cond := u_ws RX0 TX0 1
theorem nmX0 : ∀ a, a < 1 → ∀ b, b < 1 → a ≠ b → (TX0 a).2.1 ≠ (TX0 b).2.1 := by decide +kernel
theorem tyX0_ok : ∀ k, k < 1 → parseFieldDescriptor (TX0 k).2.2.1 = some (tyX0 k) := by decide +kernel
abbrev cX0_init : ByteArray := prog_2_method_1_code
def yX0_init : MethodName := ⟨RX0, "<init>", "()V"⟩
abbrev cX0_regard : ByteArray := prog_2_method_2_code
def yX0_regard : MethodName := ⟨RX0, "regard", "(LAfterEachVowel$State;LAfterEachVowel$Row;ILAfterEachVowel$Saying;)V"⟩
abbrev cX0_hard : ByteArray := prog_2_method_3_code
def yX0_hard : MethodName := ⟨RX0, "hard", "(LAfterEachVowel$State;LAfterEachVowel$Row;LAfterEachVowel$Text;)I"⟩
abbrev cX0_hardBy : ByteArray := prog_2_method_4_code
def yX0_hardBy : MethodName := ⟨RX0, "hardBy", "(III)I"⟩
abbrev cX0_worth : ByteArray := prog_2_method_5_code
def yX0_worth : MethodName := ⟨RX0, "worth", "(LAfterEachVowel$State;LAfterEachVowel$Row;LAfterEachVowel$Text;LAfterEachVowel$Sayings;)I"⟩
def RX1 : String := "AfterEachVowel$Orders"
def TX1 : u_T := fun k => match k with
  | 0 => ("AfterEachVowel$Orders", "stages", "[LAfterEachVowel$Sayings;", true)
  | 1 => ("AfterEachVowel$Orders", "way", "LAfterEachVowel$Row;", true)
  | 2 => ("AfterEachVowel$Orders", "judge", "LAfterEachVowel$Judge;", true)
  | 3 => ("AfterEachVowel$Orders", "isFirst", "Z", false)
  | 4 => ("AfterEachVowel$Orders", "most", "I", false)
  | _ => ("AfterEachVowel$Orders", "best", "I", false)
def tyX1 : Nat → FieldType := fun k => match k with
  | 0 => .array (.object "AfterEachVowel$Sayings")
  | 1 => .object "AfterEachVowel$Row"
  | 2 => .object "AfterEachVowel$Judge"
  | 3 => .boolean
  | 4 => .int
  | _ => .int
abbrev wsX10 : List Cond := u_ws RX1 TX1 6
theorem nmX1 : ∀ a, a < 6 → ∀ b, b < 6 → a ≠ b → (TX1 a).2.1 ≠ (TX1 b).2.1 := by decide +kernel
theorem tyX1_ok : ∀ k, k < 6 → parseFieldDescriptor (TX1 k).2.2.1 = some (tyX1 k) := by decide +kernel
abbrev cX1_init : ByteArray := prog_3_method_1_code
def yX1_init : MethodName := ⟨RX1, "<init>", "()V"⟩
abbrev cX1_search : ByteArray := prog_3_method_2_code
def yX1_search : MethodName := ⟨RX1, "search", "(LAfterEachVowel$State;LAfterEachVowel$Text;)V"⟩
abbrev cX1_goOn : ByteArray := prog_3_method_3_code
def yX1_goOn : MethodName := ⟨RX1, "goOn", "(LAfterEachVowel$State;LAfterEachVowel$Text;III)V"⟩
abbrev cX1_keepBetter : ByteArray := prog_3_method_4_code
def yX1_keepBetter : MethodName := ⟨RX1, "keepBetter", "(II)V"⟩
def RX2 : String := "AfterEachVowel$Parser"
def TX2 : u_T := fun k => match k with
  | 0 => ("AfterEachVowel$Parser", "tape", "LAfterEachVowel$Tape;", false)
  | 1 => ("AfterEachVowel$Parser", "target", "LAfterEachVowel$Text;", false)
  | 2 => ("AfterEachVowel$Parser", "at", "I", false)
  | _ => ("AfterEachVowel$Parser", "open", "I", false)
def tyX2 : Nat → FieldType := fun k => match k with
  | 0 => .object "AfterEachVowel$Tape"
  | 1 => .object "AfterEachVowel$Text"
  | 2 => .int
  | _ => .int
abbrev wsX20 : List Cond := u_ws RX2 TX2 4
theorem nmX2 : ∀ a, a < 4 → ∀ b, b < 4 → a ≠ b → (TX2 a).2.1 ≠ (TX2 b).2.1 := by decide +kernel
theorem tyX2_ok : ∀ k, k < 4 → parseFieldDescriptor (TX2 k).2.2.1 = some (tyX2 k) := by decide +kernel
abbrev cX2_init : ByteArray := prog_4_method_1_code
def yX2_init : MethodName := ⟨RX2, "<init>", "()V"⟩
abbrev cX2_read : ByteArray := prog_4_method_2_code
def yX2_read : MethodName := ⟨RX2, "read", "(LAfterEachVowel$Tape;LAfterEachVowel$Text;)I"⟩
abbrev cX2_next : ByteArray := prog_4_method_3_code
def yX2_next : MethodName := ⟨RX2, "next", "()I"⟩
abbrev cX2_place : ByteArray := prog_4_method_4_code
def yX2_place : MethodName := ⟨RX2, "place", "()I"⟩
abbrev cX2_take : ByteArray := prog_4_method_5_code
def yX2_take : MethodName := ⟨RX2, "take", "(I)Z"⟩
abbrev cX2_takeOpening : ByteArray := prog_4_method_6_code
def yX2_takeOpening : MethodName := ⟨RX2, "takeOpening", "()Z"⟩
abbrev cX2_readPart : ByteArray := prog_4_method_7_code
def yX2_readPart : MethodName := ⟨RX2, "readPart", "(II)Z"⟩
abbrev cX2_joined : ByteArray := prog_4_method_8_code
def yX2_joined : MethodName := ⟨RX2, "joined", "(III)I"⟩
abbrev cX2_readE : ByteArray := prog_4_method_9_code
def yX2_readE : MethodName := ⟨RX2, "readE", "()I"⟩
abbrev cX2_readAnd : ByteArray := prog_4_method_10_code
def yX2_readAnd : MethodName := ⟨RX2, "readAnd", "()I"⟩
abbrev cX2_readNot : ByteArray := prog_4_method_11_code
def yX2_readNot : MethodName := ⟨RX2, "readNot", "()I"⟩
abbrev cX2_readComparison : ByteArray := prog_4_method_12_code
def yX2_readComparison : MethodName := ⟨RX2, "readComparison", "()I"⟩
abbrev cX2_readSum : ByteArray := prog_4_method_13_code
def yX2_readSum : MethodName := ⟨RX2, "readSum", "()I"⟩
abbrev cX2_readTerm : ByteArray := prog_4_method_14_code
def yX2_readTerm : MethodName := ⟨RX2, "readTerm", "()I"⟩
abbrev cX2_readOne : ByteArray := prog_4_method_15_code
def yX2_readOne : MethodName := ⟨RX2, "readOne", "()I"⟩
abbrev cX2_readValue : ByteArray := prog_4_method_16_code
def yX2_readValue : MethodName := ⟨RX2, "readValue", "(I)I"⟩
abbrev cX2_closed : ByteArray := prog_4_method_17_code
def yX2_closed : MethodName := ⟨RX2, "closed", "(II)I"⟩
abbrev cX2_readToClosing : ByteArray := prog_4_method_18_code
def yX2_readToClosing : MethodName := ⟨RX2, "readToClosing", "()I"⟩
def RX3 : String := "AfterEachVowel$Row"
def TX3 : u_T := fun k => match k with
  | 0 => ("AfterEachVowel$Row", "rules", "[I", true)
  | _ => ("AfterEachVowel$Row", "size", "I", false)
def tyX3 : Nat → FieldType := fun k => match k with
  | 0 => .array .int
  | _ => .int
abbrev wsX30 : List Cond := u_ws RX3 TX3 2
theorem nmX3 : ∀ a, a < 2 → ∀ b, b < 2 → a ≠ b → (TX3 a).2.1 ≠ (TX3 b).2.1 := by decide +kernel
theorem tyX3_ok : ∀ k, k < 2 → parseFieldDescriptor (TX3 k).2.2.1 = some (tyX3 k) := by decide +kernel
abbrev cX3_init : ByteArray := prog_5_method_1_code
def yX3_init : MethodName := ⟨RX3, "<init>", "()V"⟩
abbrev cX3_push : ByteArray := prog_5_method_2_code
def yX3_push : MethodName := ⟨RX3, "push", "(I)V"⟩
abbrev cX3_last : ByteArray := prog_5_method_3_code
def yX3_last : MethodName := ⟨RX3, "last", "()I"⟩
abbrev cX3_become : ByteArray := prog_5_method_4_code
def yX3_become : MethodName := ⟨RX3, "become", "(LAfterEachVowel$Row;)V"⟩
abbrev cX3_becomeWithout : ByteArray := prog_5_method_5_code
def yX3_becomeWithout : MethodName := ⟨RX3, "becomeWithout", "(LAfterEachVowel$Row;I)V"⟩
abbrev cX3_draw : ByteArray := prog_5_method_6_code
def yX3_draw : MethodName := ⟨RX3, "draw", "(II)V"⟩
abbrev cX3_following : ByteArray := prog_5_method_7_code
def yX3_following : MethodName := ⟨RX3, "following", "(I)I"⟩
def RX4 : String := "AfterEachVowel$Saying"
def TX4 : u_T := fun k => match k with
  | 0 => ("AfterEachVowel$Saying", "letters", "[I", true)
  | _ => ("AfterEachVowel$Saying", "size", "I", false)
def tyX4 : Nat → FieldType := fun k => match k with
  | 0 => .array .int
  | _ => .int
abbrev wsX40 : List Cond := u_ws RX4 TX4 2
theorem nmX4 : ∀ a, a < 2 → ∀ b, b < 2 → a ≠ b → (TX4 a).2.1 ≠ (TX4 b).2.1 := by decide +kernel
theorem tyX4_ok : ∀ k, k < 2 → parseFieldDescriptor (TX4 k).2.2.1 = some (tyX4 k) := by decide +kernel
abbrev cX4_init : ByteArray := prog_6_method_1_code
def yX4_init : MethodName := ⟨RX4, "<init>", "()V"⟩
abbrev cX4_isTooLong : ByteArray := prog_6_method_2_code
def yX4_isTooLong : MethodName := ⟨RX4, "isTooLong", "()Z"⟩
abbrev cX4_begin : ByteArray := prog_6_method_3_code
def yX4_begin : MethodName := ⟨RX4, "begin", "(LAfterEachVowel$State;I)V"⟩
abbrev cX4_say : ByteArray := prog_6_method_4_code
def yX4_say : MethodName := ⟨RX4, "say", "(LAfterEachVowel$State;LAfterEachVowel$Row;I)V"⟩
abbrev cX4_sayByOne : ByteArray := prog_6_method_5_code
def yX4_sayByOne : MethodName := ⟨RX4, "sayByOne", "(LAfterEachVowel$State;II)V"⟩
abbrev cX4_become : ByteArray := prog_6_method_6_code
def yX4_become : MethodName := ⟨RX4, "become", "(LAfterEachVowel$Saying;)V"⟩
abbrev cX4_turnByRow : ByteArray := prog_6_method_7_code
def yX4_turnByRow : MethodName := ⟨RX4, "turnByRow", "(LAfterEachVowel$State;LAfterEachVowel$Row;)V"⟩
abbrev cX4_turn : ByteArray := prog_6_method_8_code
def yX4_turn : MethodName := ⟨RX4, "turn", "(LAfterEachVowel$State;I)V"⟩
abbrev cX4_vowelCount : ByteArray := prog_6_method_9_code
def yX4_vowelCount : MethodName := ⟨RX4, "vowelCount", "(I)I"⟩
abbrev cX4_putAfterVowels : ByteArray := prog_6_method_10_code
def yX4_putAfterVowels : MethodName := ⟨RX4, "putAfterVowels", "(II)V"⟩
abbrev cX4_repeatFirst : ByteArray := prog_6_method_11_code
def yX4_repeatFirst : MethodName := ⟨RX4, "repeatFirst", "()V"⟩
abbrev cX4_shift : ByteArray := prog_6_method_12_code
def yX4_shift : MethodName := ⟨RX4, "shift", "(I)V"⟩
abbrev cX4_shiftVowels : ByteArray := prog_6_method_13_code
def yX4_shiftVowels : MethodName := ⟨RX4, "shiftVowels", "(II)V"⟩
abbrev cX4_reverse : ByteArray := prog_6_method_14_code
def yX4_reverse : MethodName := ⟨RX4, "reverse", "()V"⟩
abbrev cX4_answer : ByteArray := prog_6_method_15_code
def yX4_answer : MethodName := ⟨RX4, "answer", "(I)I"⟩
abbrev cX4_isLike : ByteArray := prog_6_method_16_code
def yX4_isLike : MethodName := ⟨RX4, "isLike", "(LAfterEachVowel$Saying;)Z"⟩
abbrev cX4_isWord : ByteArray := prog_6_method_17_code
def yX4_isWord : MethodName := ⟨RX4, "isWord", "(LAfterEachVowel$State;I)Z"⟩
abbrev cX4_differences : ByteArray := prog_6_method_18_code
def yX4_differences : MethodName := ⟨RX4, "differences", "(LAfterEachVowel$Saying;)I"⟩
def RX5 : String := "AfterEachVowel$Sayings"
def TX5 : u_T := fun k => match k with
  | 0 => ("AfterEachVowel$Sayings", "each", "[LAfterEachVowel$Saying;", true)
  | _ => ("AfterEachVowel$Sayings", "size", "I", false)
def tyX5 : Nat → FieldType := fun k => match k with
  | 0 => .array (.object "AfterEachVowel$Saying")
  | _ => .int
abbrev wsX50 : List Cond := u_ws RX5 TX5 2
theorem nmX5 : ∀ a, a < 2 → ∀ b, b < 2 → a ≠ b → (TX5 a).2.1 ≠ (TX5 b).2.1 := by decide +kernel
theorem tyX5_ok : ∀ k, k < 2 → parseFieldDescriptor (TX5 k).2.2.1 = some (tyX5 k) := by decide +kernel
abbrev cX5_init : ByteArray := prog_7_method_1_code
def yX5_init : MethodName := ⟨RX5, "<init>", "()V"⟩
abbrev cX5_begin : ByteArray := prog_7_method_2_code
def yX5_begin : MethodName := ⟨RX5, "begin", "(LAfterEachVowel$State;)V"⟩
abbrev cX5_sayAll : ByteArray := prog_7_method_3_code
def yX5_sayAll : MethodName := ⟨RX5, "sayAll", "(LAfterEachVowel$State;LAfterEachVowel$Row;)V"⟩
abbrev cX5_becomeTurned : ByteArray := prog_7_method_4_code
def yX5_becomeTurned : MethodName := ⟨RX5, "becomeTurned", "(LAfterEachVowel$Sayings;LAfterEachVowel$State;I)V"⟩
abbrev cX5_alike : ByteArray := prog_7_method_5_code
def yX5_alike : MethodName := ⟨RX5, "alike", "()I"⟩
abbrev cX5_apart : ByteArray := prog_7_method_6_code
def yX5_apart : MethodName := ⟨RX5, "apart", "()I"⟩
abbrev cX5_tooLong : ByteArray := prog_7_method_7_code
def yX5_tooLong : MethodName := ⟨RX5, "tooLong", "()I"⟩
abbrev cX5_hasAnother : ByteArray := prog_7_method_8_code
def yX5_hasAnother : MethodName := ⟨RX5, "hasAnother", "(LAfterEachVowel$Saying;I)Z"⟩
def RX6 : String := "AfterEachVowel$Sheet"
def TX6 : u_T := fun k => match k with
  | 0 => ("AfterEachVowel$Sheet", "items", "[I", true)
  | 1 => ("AfterEachVowel$Sheet", "sort", "I", false)
  | _ => ("AfterEachVowel$Sheet", "size", "I", false)
def tyX6 : Nat → FieldType := fun k => match k with
  | 0 => .array .int
  | 1 => .int
  | _ => .int
abbrev wsX60 : List Cond := u_ws RX6 TX6 3
theorem nmX6 : ∀ a, a < 3 → ∀ b, b < 3 → a ≠ b → (TX6 a).2.1 ≠ (TX6 b).2.1 := by decide +kernel
theorem tyX6_ok : ∀ k, k < 3 → parseFieldDescriptor (TX6 k).2.2.1 = some (tyX6 k) := by decide +kernel
abbrev cX6_init : ByteArray := prog_8_method_1_code
def yX6_init : MethodName := ⟨RX6, "<init>", "()V"⟩
abbrev cX6_isMissing : ByteArray := prog_8_method_2_code
def yX6_isMissing : MethodName := ⟨RX6, "isMissing", "()Z"⟩
abbrev cX6_become : ByteArray := prog_8_method_3_code
def yX6_become : MethodName := ⟨RX6, "become", "(II)V"⟩
abbrev cX6_becomeSaying : ByteArray := prog_8_method_4_code
def yX6_becomeSaying : MethodName := ⟨RX6, "becomeSaying", "(LAfterEachVowel$Saying;)V"⟩
abbrev cX6_put : ByteArray := prog_8_method_5_code
def yX6_put : MethodName := ⟨RX6, "put", "(II)V"⟩
abbrev cX6_holds : ByteArray := prog_8_method_6_code
def yX6_holds : MethodName := ⟨RX6, "holds", "(II)Z"⟩
abbrev cX6_tellsWord : ByteArray := prog_8_method_7_code
def yX6_tellsWord : MethodName := ⟨RX6, "tellsWord", "()Z"⟩
abbrev cX6_tells : ByteArray := prog_8_method_8_code
def yX6_tells : MethodName := ⟨RX6, "tells", "(LAfterEachVowel$Saying;)Z"⟩
def RX7 : String := "AfterEachVowel$State"
def TX7 : u_T := fun k => match k with
  | 0 => ("AfterEachVowel$State", "vowels", "I", false)
  | 1 => ("AfterEachVowel$State", "letters", "[[I", true)
  | 2 => ("AfterEachVowel$State", "sizes", "[I", true)
  | 3 => ("AfterEachVowel$State", "weights", "[I", true)
  | 4 => ("AfterEachVowel$State", "words", "I", false)
  | 5 => ("AfterEachVowel$State", "kinds", "[I", true)
  | 6 => ("AfterEachVowel$State", "ruleLetters", "[I", true)
  | 7 => ("AfterEachVowel$State", "numbers", "[I", true)
  | 8 => ("AfterEachVowel$State", "rules", "I", false)
  | 9 => ("AfterEachVowel$State", "row", "LAfterEachVowel$Row;", true)
  | _ => ("AfterEachVowel$State", "law", "I", false)
def tyX7 : Nat → FieldType := fun k => match k with
  | 0 => .int
  | 1 => .array (.array .int)
  | 2 => .array .int
  | 3 => .array .int
  | 4 => .int
  | 5 => .array .int
  | 6 => .array .int
  | 7 => .array .int
  | 8 => .int
  | 9 => .object "AfterEachVowel$Row"
  | _ => .int
abbrev wsX70 : List Cond := u_ws RX7 TX7 11
theorem nmX7 : ∀ a, a < 11 → ∀ b, b < 11 → a ≠ b → (TX7 a).2.1 ≠ (TX7 b).2.1 := by decide +kernel
theorem tyX7_ok : ∀ k, k < 11 → parseFieldDescriptor (TX7 k).2.2.1 = some (tyX7 k) := by decide +kernel
abbrev cX7_init : ByteArray := prog_9_method_1_code
def yX7_init : MethodName := ⟨RX7, "<init>", "()V"⟩
abbrev cX7_hasWord : ByteArray := prog_9_method_2_code
def yX7_hasWord : MethodName := ⟨RX7, "hasWord", "(I)Z"⟩
abbrev cX7_hasRule : ByteArray := prog_9_method_3_code
def yX7_hasRule : MethodName := ⟨RX7, "hasRule", "(I)Z"⟩
abbrev cX7_addWord : ByteArray := prog_9_method_4_code
def yX7_addWord : MethodName := ⟨RX7, "addWord", "(LAfterEachVowel$Sheet;I)I"⟩
abbrev cX7_addRule : ByteArray := prog_9_method_5_code
def yX7_addRule : MethodName := ⟨RX7, "addRule", "(III)I"⟩
abbrev cX7_letterOf : ByteArray := prog_9_method_6_code
def yX7_letterOf : MethodName := ⟨RX7, "letterOf", "(II)I"⟩
abbrev cX7_hasPart : ByteArray := prog_9_method_7_code
def yX7_hasPart : MethodName := ⟨RX7, "hasPart", "(II)Z"⟩
abbrev cX7_canHold : ByteArray := prog_9_method_8_code
def yX7_canHold : MethodName := ⟨RX7, "canHold", "(II)Z"⟩
abbrev cX7_part : ByteArray := prog_9_method_9_code
def yX7_part : MethodName := ⟨RX7, "part", "(II)I"⟩
abbrev cX7_change : ByteArray := prog_9_method_10_code
def yX7_change : MethodName := ⟨RX7, "change", "(III)V"⟩
abbrev cX7_become : ByteArray := prog_9_method_11_code
def yX7_become : MethodName := ⟨RX7, "become", "(LAfterEachVowel$State;)V"⟩
def RX8 : String := "AfterEachVowel$Tape"
def TX8 : u_T := fun k => match k with
  | 0 => ("AfterEachVowel$Tape", "bytes", "[I", true)
  | 1 => ("AfterEachVowel$Tape", "size", "I", false)
  | 2 => ("AfterEachVowel$Tape", "kinds", "[I", true)
  | 3 => ("AfterEachVowel$Tape", "values", "[I", true)
  | 4 => ("AfterEachVowel$Tape", "places", "[I", true)
  | _ => ("AfterEachVowel$Tape", "tokens", "I", false)
def tyX8 : Nat → FieldType := fun k => match k with
  | 0 => .array .int
  | 1 => .int
  | 2 => .array .int
  | 3 => .array .int
  | 4 => .array .int
  | _ => .int
abbrev wsX80 : List Cond := u_ws RX8 TX8 6
theorem nmX8 : ∀ a, a < 6 → ∀ b, b < 6 → a ≠ b → (TX8 a).2.1 ≠ (TX8 b).2.1 := by decide +kernel
theorem tyX8_ok : ∀ k, k < 6 → parseFieldDescriptor (TX8 k).2.2.1 = some (tyX8 k) := by decide +kernel
abbrev cX8_init : ByteArray := prog_10_method_1_code
def yX8_init : MethodName := ⟨RX8, "<init>", "()V"⟩
abbrev cX8_put : ByteArray := prog_10_method_2_code
def yX8_put : MethodName := ⟨RX8, "put", "(I)V"⟩
abbrev cX8_scan : ByteArray := prog_10_method_3_code
def yX8_scan : MethodName := ⟨RX8, "scan", "()V"⟩
abbrev cX8_afterBlanks : ByteArray := prog_10_method_4_code
def yX8_afterBlanks : MethodName := ⟨RX8, "afterBlanks", "(I)I"⟩
abbrev cX8_scanToken : ByteArray := prog_10_method_5_code
def yX8_scanToken : MethodName := ⟨RX8, "scanToken", "(I)I"⟩
abbrev cX8_scanWord : ByteArray := prog_10_method_6_code
def yX8_scanWord : MethodName := ⟨RX8, "scanWord", "(I)I"⟩
abbrev cX8_scanNumber : ByteArray := prog_10_method_7_code
def yX8_scanNumber : MethodName := ⟨RX8, "scanNumber", "(I)I"⟩
abbrev cX8_addToken : ByteArray := prog_10_method_8_code
def yX8_addToken : MethodName := ⟨RX8, "addToken", "(IIII)I"⟩
abbrev cX8_isSpelled : ByteArray := prog_10_method_9_code
def yX8_isSpelled : MethodName := ⟨RX8, "isSpelled", "(Ljava/lang/String;II)Z"⟩
abbrev cX8_spelling : ByteArray := prog_10_method_10_code
def yX8_spelling : MethodName := ⟨RX8, "spelling", "(I)Ljava/lang/String;"⟩
def RX9 : String := "AfterEachVowel$Text"
def TX9 : u_T := fun k => match k with
  | 0 => ("AfterEachVowel$Text", "ops", "[I", true)
  | 1 => ("AfterEachVowel$Text", "lefts", "[I", true)
  | 2 => ("AfterEachVowel$Text", "rights", "[I", true)
  | 3 => ("AfterEachVowel$Text", "values", "[I", true)
  | 4 => ("AfterEachVowel$Text", "ends", "[I", true)
  | _ => ("AfterEachVowel$Text", "size", "I", false)
def tyX9 : Nat → FieldType := fun k => match k with
  | 0 => .array .int
  | 1 => .array .int
  | 2 => .array .int
  | 3 => .array .int
  | 4 => .array .int
  | _ => .int
abbrev wsX90 : List Cond := u_ws RX9 TX9 6
theorem nmX9 : ∀ a, a < 6 → ∀ b, b < 6 → a ≠ b → (TX9 a).2.1 ≠ (TX9 b).2.1 := by decide +kernel
theorem tyX9_ok : ∀ k, k < 6 → parseFieldDescriptor (TX9 k).2.2.1 = some (tyX9 k) := by decide +kernel
abbrev cX9_init : ByteArray := prog_11_method_1_code
def yX9_init : MethodName := ⟨RX9, "<init>", "()V"⟩
abbrev cX9_empty : ByteArray := prog_11_method_2_code
def yX9_empty : MethodName := ⟨RX9, "empty", "()V"⟩
abbrev cX9_add : ByteArray := prog_11_method_3_code
def yX9_add : MethodName := ⟨RX9, "add", "(III)I"⟩
abbrev cX9_endPart : ByteArray := prog_11_method_4_code
def yX9_endPart : MethodName := ⟨RX9, "endPart", "(I)V"⟩
abbrev cX9_tells : ByteArray := prog_11_method_5_code
def yX9_tells : MethodName := ⟨RX9, "tells", "(I[I)I"⟩
abbrev cX9_worked : ByteArray := prog_11_method_6_code
def yX9_worked : MethodName := ⟨RX9, "worked", "(III[I)I"⟩
def RX10 : String := "AfterEachVowel"
def TX10 : u_T := fun k => match k with
  | 0 => ("AfterEachVowel", "now", "LAfterEachVowel$State;", true)
  | 1 => ("AfterEachVowel", "kept", "LAfterEachVowel$State;", true)
  | 2 => ("AfterEachVowel", "isKept", "Z", false)
  | 3 => ("AfterEachVowel", "texts", "[LAfterEachVowel$Text;", true)
  | 4 => ("AfterEachVowel", "textCount", "I", false)
  | 5 => ("AfterEachVowel", "tape", "LAfterEachVowel$Tape;", true)
  | 6 => ("AfterEachVowel", "parser", "LAfterEachVowel$Parser;", true)
  | 7 => ("AfterEachVowel", "sheets", "[LAfterEachVowel$Sheet;", true)
  | 8 => ("AfterEachVowel", "sayings", "LAfterEachVowel$Sayings;", true)
  | 9 => ("AfterEachVowel", "spare", "LAfterEachVowel$Saying;", true)
  | 10 => ("AfterEachVowel", "supposed", "LAfterEachVowel$Row;", true)
  | 11 => ("AfterEachVowel", "judge", "LAfterEachVowel$Judge;", true)
  | _ => ("AfterEachVowel", "orders", "LAfterEachVowel$Orders;", true)
def tyX10 : Nat → FieldType := fun k => match k with
  | 0 => .object "AfterEachVowel$State"
  | 1 => .object "AfterEachVowel$State"
  | 2 => .boolean
  | 3 => .array (.object "AfterEachVowel$Text")
  | 4 => .int
  | 5 => .object "AfterEachVowel$Tape"
  | 6 => .object "AfterEachVowel$Parser"
  | 7 => .array (.object "AfterEachVowel$Sheet")
  | 8 => .object "AfterEachVowel$Sayings"
  | 9 => .object "AfterEachVowel$Saying"
  | 10 => .object "AfterEachVowel$Row"
  | 11 => .object "AfterEachVowel$Judge"
  | _ => .object "AfterEachVowel$Orders"
abbrev wsX100 : List Cond := u_ws RX10 TX10 13
theorem nmX10 : ∀ a, a < 13 → ∀ b, b < 13 → a ≠ b → (TX10 a).2.1 ≠ (TX10 b).2.1 := by decide +kernel
theorem tyX10_ok : ∀ k, k < 13 → parseFieldDescriptor (TX10 k).2.2.1 = some (tyX10 k) := by decide +kernel
abbrev cX10_init : ByteArray := prog_1_method_1_code
def yX10_init : MethodName := ⟨RX10, "<init>", "()V"⟩
abbrev cX10_learn : ByteArray := prog_1_method_2_code
def yX10_learn : MethodName := ⟨RX10, "learn", "(II)I"⟩
abbrev cX10_rule : ByteArray := prog_1_method_3_code
def yX10_rule : MethodName := ⟨RX10, "rule", "(III)I"⟩
abbrev cX10_then : ByteArray := prog_1_method_4_code
def yX10_then : MethodName := ⟨RX10, "then", "(I)I"⟩
abbrev cX10_clear : ByteArray := prog_1_method_5_code
def yX10_clear : MethodName := ⟨RX10, "clear", "()I"⟩
abbrev cX10_set : ByteArray := prog_1_method_6_code
def yX10_set : MethodName := ⟨RX10, "set", "(III)I"⟩
abbrev cX10_told : ByteArray := prog_1_method_7_code
def yX10_told : MethodName := ⟨RX10, "told", "(II)I"⟩
abbrev cX10_feed : ByteArray := prog_1_method_8_code
def yX10_feed : MethodName := ⟨RX10, "feed", "(I)I"⟩
abbrev cX10_text : ByteArray := prog_1_method_9_code
def yX10_text : MethodName := ⟨RX10, "text", "()I"⟩
abbrev cX10_force : ByteArray := prog_1_method_10_code
def yX10_force : MethodName := ⟨RX10, "force", "(I)I"⟩
abbrev cX10_said : ByteArray := prog_1_method_11_code
def yX10_said : MethodName := ⟨RX10, "said", "(II)I"⟩
abbrev cX10_turned : ByteArray := prog_1_method_12_code
def yX10_turned : MethodName := ⟨RX10, "turned", "(III)I"⟩
abbrev cX10_of : ByteArray := prog_1_method_13_code
def yX10_of : MethodName := ⟨RX10, "of", "(II)I"⟩
abbrev cX10_all : ByteArray := prog_1_method_14_code
def yX10_all : MethodName := ⟨RX10, "all", "(I)I"⟩
abbrev cX10_leave : ByteArray := prog_1_method_15_code
def yX10_leave : MethodName := ⟨RX10, "leave", "(I)I"⟩
abbrev cX10_order : ByteArray := prog_1_method_16_code
def yX10_order : MethodName := ⟨RX10, "order", "(I)I"⟩
abbrev cX10_letter : ByteArray := prog_1_method_17_code
def yX10_letter : MethodName := ⟨RX10, "letter", "(II)I"⟩
abbrev cX10_heard : ByteArray := prog_1_method_18_code
def yX10_heard : MethodName := ⟨RX10, "heard", "(II)I"⟩
abbrev cX10_found : ByteArray := prog_1_method_19_code
def yX10_found : MethodName := ⟨RX10, "found", "(IIII)I"⟩
abbrev cX10_alikeTexts : ByteArray := prog_1_method_20_code
def yX10_alikeTexts : MethodName := ⟨RX10, "alikeTexts", "()I"⟩
abbrev cX10_film : ByteArray := prog_1_method_21_code
def yX10_film : MethodName := ⟨RX10, "film", "(II)I"⟩
abbrev cX10_drawn : ByteArray := prog_1_method_22_code
def yX10_drawn : MethodName := ⟨RX10, "drawn", "(I)I"⟩
abbrev cX10_chance : ByteArray := prog_1_method_23_code
def yX10_chance : MethodName := ⟨RX10, "chance", "(III)J"⟩
abbrev cX10_image : ByteArray := prog_1_method_24_code
def yX10_image : MethodName := ⟨RX10, "image", "()I"⟩
abbrev cX10_back : ByteArray := prog_1_method_25_code
def yX10_back : MethodName := ⟨RX10, "back", "()I"⟩
abbrev cX10_count : ByteArray := prog_1_method_26_code
def yX10_count : MethodName := ⟨RX10, "count", "(I)I"⟩
abbrev cX10_sheet : ByteArray := prog_1_method_27_code
def yX10_sheet : MethodName := ⟨RX10, "sheet", "(III)I"⟩
abbrev cX10_cell : ByteArray := prog_1_method_28_code
def yX10_cell : MethodName := ⟨RX10, "cell", "(III)I"⟩
abbrev cX10_copy : ByteArray := prog_1_method_29_code
def yX10_copy : MethodName := ⟨RX10, "copy", "(IIIII)I"⟩
abbrev cX10_rules : ByteArray := prog_1_method_30_code
def yX10_rules : MethodName := ⟨RX10, "rules", "(IIII)I"⟩
abbrev cX10_taken : ByteArray := prog_1_method_31_code
def yX10_taken : MethodName := ⟨RX10, "taken", "(II)I"⟩
abbrev cX10_isWithin : ByteArray := prog_1_method_32_code
def yX10_isWithin : MethodName := ⟨RX10, "isWithin", "(II)Z"⟩
abbrev cX10_isSheet : ByteArray := prog_1_method_33_code
def yX10_isSheet : MethodName := ⟨RX10, "isSheet", "(I)Z"⟩
abbrev cX10_isLetter : ByteArray := prog_1_method_34_code
def yX10_isLetter : MethodName := ⟨RX10, "isLetter", "(I)Z"⟩
abbrev cX10_isRule : ByteArray := prog_1_method_35_code
def yX10_isRule : MethodName := ⟨RX10, "isRule", "(III)Z"⟩
abbrev cX10_isSaidPlace : ByteArray := prog_1_method_36_code
def yX10_isSaidPlace : MethodName := ⟨RX10, "isSaidPlace", "(I)Z"⟩
abbrev cX10_isUnder : ByteArray := prog_1_method_37_code
def yX10_isUnder : MethodName := ⟨RX10, "isUnder", "(II)Z"⟩
abbrev cX10_commonDivisor : ByteArray := prog_1_method_38_code
def yX10_commonDivisor : MethodName := ⟨RX10, "commonDivisor", "(II)I"⟩
abbrev cX10_law : ByteArray := prog_1_method_39_code
def yX10_law : MethodName := ⟨RX10, "law", "()LAfterEachVowel$Text;"⟩
abbrev cX10_worthBy : ByteArray := prog_1_method_40_code
def yX10_worthBy : MethodName := ⟨RX10, "worthBy", "(LAfterEachVowel$Row;)I"⟩
abbrev cX10_judged : ByteArray := prog_1_method_41_code
def yX10_judged : MethodName := ⟨RX10, "judged", "(II)I"⟩
abbrev cX10_roundOf : ByteArray := prog_1_method_42_code
def yX10_roundOf : MethodName := ⟨RX10, "roundOf", "(I)I"⟩
abbrev cX10_safeLetters : ByteArray := prog_1_method_43_code
def yX10_safeLetters : MethodName := ⟨RX10, "safeLetters", "(I)I"⟩
abbrev cX10_isSafe : ByteArray := prog_1_method_44_code
def yX10_isSafe : MethodName := ⟨RX10, "isSafe", "(II)Z"⟩
abbrev cX10_idleRules : ByteArray := prog_1_method_45_code
def yX10_idleRules : MethodName := ⟨RX10, "idleRules", "()I"⟩
abbrev cX10_isIdle : ByteArray := prog_1_method_46_code
def yX10_isIdle : MethodName := ⟨RX10, "isIdle", "(I)Z"⟩
abbrev cX10_wordsSaidAs : ByteArray := prog_1_method_47_code
def yX10_wordsSaidAs : MethodName := ⟨RX10, "wordsSaidAs", "(LAfterEachVowel$Sheet;)I"⟩
abbrev cX10_wordsTurningTo : ByteArray := prog_1_method_48_code
def yX10_wordsTurningTo : MethodName := ⟨RX10, "wordsTurningTo", "(LAfterEachVowel$Sheet;I)I"⟩
abbrev cX10_rulesTurningTo : ByteArray := prog_1_method_49_code
def yX10_rulesTurningTo : MethodName := ⟨RX10, "rulesTurningTo", "(LAfterEachVowel$Sheet;)I"⟩
abbrev cX10_pairsTurningTo : ByteArray := prog_1_method_50_code
def yX10_pairsTurningTo : MethodName := ⟨RX10, "pairsTurningTo", "(LAfterEachVowel$Sheet;)I"⟩
abbrev cX10_fitting : ByteArray := prog_1_method_51_code
def yX10_fitting : MethodName := ⟨RX10, "fitting", "(LAfterEachVowel$Sheet;I[III)I"⟩
def RX11 : String := "AfterEachVowelModel"
def TX11 : u_T := fun k => match k with
  | 0 => ("AfterEachVowelModel", "vowelBits", "I", false)
  | 1 => ("AfterEachVowelModel", "words", "I", false)
  | 2 => ("AfterEachVowelModel", "spelt", "[I", true)
  | 3 => ("AfterEachVowelModel", "sizeOf", "[I", true)
  | 4 => ("AfterEachVowelModel", "weight", "[I", true)
  | 5 => ("AfterEachVowelModel", "ruleMany", "I", false)
  | 6 => ("AfterEachVowelModel", "kind", "[I", true)
  | 7 => ("AfterEachVowelModel", "letterOf", "[I", true)
  | 8 => ("AfterEachVowelModel", "numberOf", "[I", true)
  | 9 => ("AfterEachVowelModel", "rowMany", "I", false)
  | 10 => ("AfterEachVowelModel", "row", "[I", true)
  | 11 => ("AfterEachVowelModel", "tape", "[I", true)
  | 12 => ("AfterEachVowelModel", "taped", "I", false)
  | 13 => ("AfterEachVowelModel", "texts", "I", false)
  | 14 => ("AfterEachVowelModel", "law", "I", false)
  | 15 => ("AfterEachVowelModel", "codes", "[I", true)
  | 16 => ("AfterEachVowelModel", "codeMany", "[I", true)
  | 17 => ("AfterEachVowelModel", "at", "I", false)
  | 18 => ("AfterEachVowelModel", "token", "I", false)
  | 19 => ("AfterEachVowelModel", "worth", "I", false)
  | 20 => ("AfterEachVowelModel", "place", "I", false)
  | 21 => ("AfterEachVowelModel", "letters", "[C", true)
  | 22 => ("AfterEachVowelModel", "begins", "[I", true)
  | 23 => ("AfterEachVowelModel", "waits", "[I", true)
  | 24 => ("AfterEachVowelModel", "waiting", "I", false)
  | 25 => ("AfterEachVowelModel", "open", "I", false)
  | 26 => ("AfterEachVowelModel", "depth", "I", false)
  | 27 => ("AfterEachVowelModel", "compared", "[Z", true)
  | 28 => ("AfterEachVowelModel", "codeAt", "I", false)
  | 29 => ("AfterEachVowelModel", "made", "I", false)
  | 30 => ("AfterEachVowelModel", "stack", "[I", true)
  | 31 => ("AfterEachVowelModel", "names", "[I", true)
  | 32 => ("AfterEachVowelModel", "saying", "[I", true)
  | 33 => ("AfterEachVowelModel", "longOf", "[I", true)
  | 34 => ("AfterEachVowelModel", "turning", "[I", true)
  | 35 => ("AfterEachVowelModel", "turnedInto", "[I", true)
  | 36 => ("AfterEachVowelModel", "turningMany", "I", false)
  | 37 => ("AfterEachVowelModel", "laid", "[I", true)
  | 38 => ("AfterEachVowelModel", "laidMany", "I", false)
  | 39 => ("AfterEachVowelModel", "kept", "Z", false)
  | 40 => ("AfterEachVowelModel", "keptRow", "[I", true)
  | 41 => ("AfterEachVowelModel", "sorts", "[I", true)
  | 42 => ("AfterEachVowelModel", "sizes", "[I", true)
  | 43 => ("AfterEachVowelModel", "items", "[I", true)
  | _ => ("AfterEachVowelModel", "moved", "[I", true)
def tyX11 : Nat → FieldType := fun k => match k with
  | 0 => .int
  | 1 => .int
  | 2 => .array .int
  | 3 => .array .int
  | 4 => .array .int
  | 5 => .int
  | 6 => .array .int
  | 7 => .array .int
  | 8 => .array .int
  | 9 => .int
  | 10 => .array .int
  | 11 => .array .int
  | 12 => .int
  | 13 => .int
  | 14 => .int
  | 15 => .array .int
  | 16 => .array .int
  | 17 => .int
  | 18 => .int
  | 19 => .int
  | 20 => .int
  | 21 => .array .char
  | 22 => .array .int
  | 23 => .array .int
  | 24 => .int
  | 25 => .int
  | 26 => .int
  | 27 => .array .boolean
  | 28 => .int
  | 29 => .int
  | 30 => .array .int
  | 31 => .array .int
  | 32 => .array .int
  | 33 => .array .int
  | 34 => .array .int
  | 35 => .array .int
  | 36 => .int
  | 37 => .array .int
  | 38 => .int
  | 39 => .boolean
  | 40 => .array .int
  | 41 => .array .int
  | 42 => .array .int
  | 43 => .array .int
  | _ => .array .int
abbrev wsX110 : List Cond := u_ws RX11 TX11 45
theorem nmX11 : ∀ a, a < 45 → ∀ b, b < 45 → a ≠ b → (TX11 a).2.1 ≠ (TX11 b).2.1 := by decide +kernel
theorem tyX11_ok : ∀ k, k < 45 → parseFieldDescriptor (TX11 k).2.2.1 = some (tyX11 k) := by decide +kernel
abbrev cX11_isIn : ByteArray := prog_13_method_1_code
def yX11_isIn : MethodName := ⟨RX11, "isIn", "(III)Z"⟩
abbrev cX11_isWord : ByteArray := prog_13_method_2_code
def yX11_isWord : MethodName := ⟨RX11, "isWord", "(I)Z"⟩
abbrev cX11_isRule : ByteArray := prog_13_method_3_code
def yX11_isRule : MethodName := ⟨RX11, "isRule", "(I)Z"⟩
abbrev cX11_learn : ByteArray := prog_13_method_4_code
def yX11_learn : MethodName := ⟨RX11, "learn", "(II)I"⟩
abbrev cX11_rule : ByteArray := prog_13_method_5_code
def yX11_rule : MethodName := ⟨RX11, "rule", "(III)I"⟩
abbrev cX11_then : ByteArray := prog_13_method_6_code
def yX11_then : MethodName := ⟨RX11, "then", "(I)I"⟩
abbrev cX11_clear : ByteArray := prog_13_method_7_code
def yX11_clear : MethodName := ⟨RX11, "clear", "()I"⟩
abbrev cX11_told : ByteArray := prog_13_method_8_code
def yX11_told : MethodName := ⟨RX11, "told", "(II)I"⟩
abbrev cX11_set : ByteArray := prog_13_method_9_code
def yX11_set : MethodName := ⟨RX11, "set", "(III)I"⟩
abbrev cX11_feed : ByteArray := prog_13_method_10_code
def yX11_feed : MethodName := ⟨RX11, "feed", "(I)I"⟩
abbrev cX11_isLetter : ByteArray := prog_13_method_11_code
def yX11_isLetter : MethodName := ⟨RX11, "isLetter", "(I)Z"⟩
abbrev cX11_isDigit : ByteArray := prog_13_method_12_code
def yX11_isDigit : MethodName := ⟨RX11, "isDigit", "(I)Z"⟩
abbrev cX11_readWord : ByteArray := prog_13_method_13_code
def yX11_readWord : MethodName := ⟨RX11, "readWord", "()V"⟩
abbrev cX11_readNumber : ByteArray := prog_13_method_14_code
def yX11_readNumber : MethodName := ⟨RX11, "readNumber", "()V"⟩
abbrev cX11_next : ByteArray := prog_13_method_15_code
def yX11_next : MethodName := ⟨RX11, "next", "()V"⟩
abbrev cX11_isSign : ByteArray := prog_13_method_16_code
def yX11_isSign : MethodName := ⟨RX11, "isSign", "(I)Z"⟩
abbrev cX11_isKey : ByteArray := prog_13_method_17_code
def yX11_isKey : MethodName := ⟨RX11, "isKey", "(I)Z"⟩
abbrev cX11_emit : ByteArray := prog_13_method_18_code
def yX11_emit : MethodName := ⟨RX11, "emit", "(I)V"⟩
abbrev cX11_rank : ByteArray := prog_13_method_19_code
def yX11_rank : MethodName := ⟨RX11, "rank", "(I)I"⟩
abbrev cX11_doAll : ByteArray := prog_13_method_20_code
def yX11_doAll : MethodName := ⟨RX11, "doAll", "(I)V"⟩
abbrev cX11_await : ByteArray := prog_13_method_21_code
def yX11_await : MethodName := ⟨RX11, "await", "(I)V"⟩
abbrev cX11_between : ByteArray := prog_13_method_22_code
def yX11_between : MethodName := ⟨RX11, "between", "()Z"⟩
abbrev cX11_closes : ByteArray := prog_13_method_23_code
def yX11_closes : MethodName := ⟨RX11, "closes", "()Z"⟩
abbrev cX11_ahead : ByteArray := prog_13_method_24_code
def yX11_ahead : MethodName := ⟨RX11, "ahead", "(Z)Z"⟩
abbrev cX11_readE : ByteArray := prog_13_method_25_code
def yX11_readE : MethodName := ⟨RX11, "readE", "(I)Z"⟩
abbrev cX11_readAll : ByteArray := prog_13_method_26_code
def yX11_readAll : MethodName := ⟨RX11, "readAll", "(I)I"⟩
abbrev cX11_text : ByteArray := prog_13_method_27_code
def yX11_text : MethodName := ⟨RX11, "text", "()I"⟩
abbrev cX11_force : ByteArray := prog_13_method_28_code
def yX11_force : MethodName := ⟨RX11, "force", "(I)I"⟩
abbrev cX11_init : ByteArray := prog_13_method_29_code
def yX11_init : MethodName := ⟨RX11, "<init>", "()V"⟩
abbrev cX11_done : ByteArray := prog_13_method_30_code
def yX11_done : MethodName := ⟨RX11, "done", "(III)I"⟩
abbrev cX11_says : ByteArray := prog_13_method_31_code
def yX11_says : MethodName := ⟨RX11, "says", "(II)I"⟩
abbrev cX11_isVowel : ByteArray := prog_13_method_32_code
def yX11_isVowel : MethodName := ⟨RX11, "isVowel", "(I)Z"⟩
abbrev cX11_turn : ByteArray := prog_13_method_33_code
def yX11_turn : MethodName := ⟨RX11, "turn", "(I)V"⟩
abbrev cX11_begin : ByteArray := prog_13_method_34_code
def yX11_begin : MethodName := ⟨RX11, "begin", "(I)V"⟩
abbrev cX11_turnByRow : ByteArray := prog_13_method_35_code
def yX11_turnByRow : MethodName := ⟨RX11, "turnByRow", "()V"⟩
abbrev cX11_say : ByteArray := prog_13_method_36_code
def yX11_say : MethodName := ⟨RX11, "say", "(I)V"⟩
abbrev cX11_sayAll : ByteArray := prog_13_method_37_code
def yX11_sayAll : MethodName := ⟨RX11, "sayAll", "()V"⟩
abbrev cX11_letterAt : ByteArray := prog_13_method_38_code
def yX11_letterAt : MethodName := ⟨RX11, "letterAt", "(II[II)I"⟩
abbrev cX11_said : ByteArray := prog_13_method_39_code
def yX11_said : MethodName := ⟨RX11, "said", "(II)I"⟩
abbrev cX11_turned : ByteArray := prog_13_method_40_code
def yX11_turned : MethodName := ⟨RX11, "turned", "(III)I"⟩
abbrev cX11_isAlike : ByteArray := prog_13_method_41_code
def yX11_isAlike : MethodName := ⟨RX11, "isAlike", "(II)Z"⟩
abbrev cX11_alike : ByteArray := prog_13_method_42_code
def yX11_alike : MethodName := ⟨RX11, "alike", "()I"⟩
abbrev cX11_hardOf : ByteArray := prog_13_method_43_code
def yX11_hardOf : MethodName := ⟨RX11, "hardOf", "(I)I"⟩
abbrev cX11_worthNow : ByteArray := prog_13_method_44_code
def yX11_worthNow : MethodName := ⟨RX11, "worthNow", "()I"⟩
abbrev cX11_isAsItWas : ByteArray := prog_13_method_45_code
def yX11_isAsItWas : MethodName := ⟨RX11, "isAsItWas", "(I)Z"⟩
abbrev cX11_round : ByteArray := prog_13_method_46_code
def yX11_round : MethodName := ⟨RX11, "round", "(I)I"⟩
abbrev cX11_safe : ByteArray := prog_13_method_47_code
def yX11_safe : MethodName := ⟨RX11, "safe", "(I)I"⟩
abbrev cX11_of : ByteArray := prog_13_method_48_code
def yX11_of : MethodName := ⟨RX11, "of", "(II)I"⟩
abbrev cX11_apart : ByteArray := prog_13_method_49_code
def yX11_apart : MethodName := ⟨RX11, "apart", "()I"⟩
abbrev cX11_idle : ByteArray := prog_13_method_50_code
def yX11_idle : MethodName := ⟨RX11, "idle", "()I"⟩
abbrev cX11_all : ByteArray := prog_13_method_51_code
def yX11_all : MethodName := ⟨RX11, "all", "(I)I"⟩
abbrev cX11_layBy : ByteArray := prog_13_method_52_code
def yX11_layBy : MethodName := ⟨RX11, "layBy", "()V"⟩
abbrev cX11_layBack : ByteArray := prog_13_method_53_code
def yX11_layBack : MethodName := ⟨RX11, "layBack", "()V"⟩
abbrev cX11_leave : ByteArray := prog_13_method_54_code
def yX11_leave : MethodName := ⟨RX11, "leave", "(I)I"⟩
abbrev cX11_swap : ByteArray := prog_13_method_55_code
def yX11_swap : MethodName := ⟨RX11, "swap", "(II)V"⟩
abbrev cX11_next_ : ByteArray := prog_13_method_56_code
def yX11_next_ : MethodName := ⟨RX11, "next", "(I)Z"⟩
abbrev cX11_order : ByteArray := prog_13_method_57_code
def yX11_order : MethodName := ⟨RX11, "order", "(I)I"⟩
abbrev cX11_letter : ByteArray := prog_13_method_58_code
def yX11_letter : MethodName := ⟨RX11, "letter", "(II)I"⟩
abbrev cX11_isHeard : ByteArray := prog_13_method_59_code
def yX11_isHeard : MethodName := ⟨RX11, "isHeard", "(I)Z"⟩
abbrev cX11_heard : ByteArray := prog_13_method_60_code
def yX11_heard : MethodName := ⟨RX11, "heard", "(II)I"⟩
abbrev cX11_found : ByteArray := prog_13_method_61_code
def yX11_found : MethodName := ⟨RX11, "found", "(IIII)I"⟩
abbrev cX11_alikeTexts : ByteArray := prog_13_method_62_code
def yX11_alikeTexts : MethodName := ⟨RX11, "alikeTexts", "()I"⟩
abbrev cX11_film : ByteArray := prog_13_method_63_code
def yX11_film : MethodName := ⟨RX11, "film", "(II)I"⟩
abbrev cX11_drawRow : ByteArray := prog_13_method_64_code
def yX11_drawRow : MethodName := ⟨RX11, "drawRow", "(I)V"⟩
abbrev cX11_drawn : ByteArray := prog_13_method_65_code
def yX11_drawn : MethodName := ⟨RX11, "drawn", "(I)I"⟩
abbrev cX11_divisor : ByteArray := prog_13_method_66_code
def yX11_divisor : MethodName := ⟨RX11, "divisor", "(JJ)J"⟩
abbrev cX11_chance : ByteArray := prog_13_method_67_code
def yX11_chance : MethodName := ⟨RX11, "chance", "(III)J"⟩
abbrev cX11_move : ByteArray := prog_13_method_68_code
def yX11_move : MethodName := ⟨RX11, "move", "([II[III)V"⟩
abbrev cX11_image : ByteArray := prog_13_method_69_code
def yX11_image : MethodName := ⟨RX11, "image", "()I"⟩
abbrev cX11_back : ByteArray := prog_13_method_70_code
def yX11_back : MethodName := ⟨RX11, "back", "()I"⟩
abbrev cX11_count : ByteArray := prog_13_method_71_code
def yX11_count : MethodName := ⟨RX11, "count", "(I)I"⟩
abbrev cX11_isSheet : ByteArray := prog_13_method_72_code
def yX11_isSheet : MethodName := ⟨RX11, "isSheet", "(I)Z"⟩
abbrev cX11_sheet : ByteArray := prog_13_method_73_code
def yX11_sheet : MethodName := ⟨RX11, "sheet", "(III)I"⟩
abbrev cX11_cell : ByteArray := prog_13_method_74_code
def yX11_cell : MethodName := ⟨RX11, "cell", "(III)I"⟩
abbrev cX11_copy : ByteArray := prog_13_method_75_code
def yX11_copy : MethodName := ⟨RX11, "copy", "(IIIII)I"⟩
abbrev cX11_rules : ByteArray := prog_13_method_76_code
def yX11_rules : MethodName := ⟨RX11, "rules", "(IIII)I"⟩
abbrev cX11_taken : ByteArray := prog_13_method_77_code
def yX11_taken : MethodName := ⟨RX11, "taken", "(II)I"⟩
def RJ11 : String := "java/lang/Character"
def TJ11 : u_T := fun k => match k with
  | _ => ("", "", "", false)
def tyJ11 : Nat → FieldType := fun k => match k with
  | _ => .int
abbrev wsJ110 : List Cond := u_ws RJ11 TJ11 0
theorem nmJ11 : ∀ a, a < 0 → ∀ b, b < 0 → a ≠ b → (TJ11 a).2.1 ≠ (TJ11 b).2.1 := by decide +kernel
theorem tyJ11_ok : ∀ k, k < 0 → parseFieldDescriptor (TJ11 k).2.2.1 = some (tyJ11 k) := by decide +kernel
abbrev cJ11_isValidCodePoint_9a6ad : ByteArray := prog_14_method_11_code
def yJ11_isValidCodePoint_9a6ad : MethodName := ⟨RJ11, "isValidCodePoint", "(I)Z"⟩
abbrev cJ11_highSurrogate_5068e : ByteArray := prog_14_method_28_code
def yJ11_highSurrogate_5068e : MethodName := ⟨RJ11, "highSurrogate", "(I)C"⟩
abbrev cJ11_lowSurrogate_5068e : ByteArray := prog_14_method_29_code
def yJ11_lowSurrogate_5068e : MethodName := ⟨RJ11, "lowSurrogate", "(I)C"⟩
def RJ9 : String := "java/lang/Math"
def TJ9 : u_T := fun k => match k with
  | _ => ("", "", "", false)
def tyJ9 : Nat → FieldType := fun k => match k with
  | _ => .int
abbrev wsJ90 : List Cond := u_ws RJ9 TJ9 0
theorem nmJ9 : ∀ a, a < 0 → ∀ b, b < 0 → a ≠ b → (TJ9 a).2.1 ≠ (TJ9 b).2.1 := by decide +kernel
theorem tyJ9_ok : ∀ k, k < 0 → parseFieldDescriptor (TJ9 k).2.2.1 = some (tyJ9 k) := by decide +kernel
abbrev cJ9_max_7cf53 : ByteArray := prog_15_method_65_code
def yJ9_max_7cf53 : MethodName := ⟨RJ9, "max", "(II)I"⟩
abbrev cJ9_min_7cf53 : ByteArray := prog_15_method_69_code
def yJ9_min_7cf53 : MethodName := ⟨RJ9, "min", "(II)I"⟩
def RJ0 : String := "java/lang/String"
def TJ0 : u_T := fun k => match k with
  | _ => ("", "", "", false)
def tyJ0 : Nat → FieldType := fun k => match k with
  | _ => .int
abbrev wsJ00 : List Cond := u_ws RJ0 TJ0 0
theorem nmJ0 : ∀ a, a < 0 → ∀ b, b < 0 → a ≠ b → (TJ0 a).2.1 ≠ (TJ0 b).2.1 := by decide +kernel
theorem tyJ0_ok : ∀ k, k < 0 → parseFieldDescriptor (TJ0 k).2.2.1 = some (tyJ0 k) := by decide +kernel
abbrev cJ0_length_8abf5 : ByteArray := prog_16_method_54_code
def yJ0_length_8abf5 : MethodName := ⟨RJ0, "length", "()I"⟩
abbrev cJ0_charAt_5068e : ByteArray := prog_16_method_56_code
def yJ0_charAt_5068e : MethodName := ⟨RJ0, "charAt", "(I)C"⟩
abbrev cJ0_indexOf_0f7a4 : ByteArray := prog_16_method_79_code
def yJ0_indexOf_0f7a4 : MethodName := ⟨RJ0, "indexOf", "(I)I"⟩
abbrev cJ0_indexOf_7cf53 : ByteArray := prog_16_method_80_code
def yJ0_indexOf_7cf53 : MethodName := ⟨RJ0, "indexOf", "(II)I"⟩
abbrev cJ0_coder_7d493 : ByteArray := prog_16_method_152_code
def yJ0_coder_7d493 : MethodName := ⟨RJ0, "coder", "()B"⟩
abbrev cJ0_isLatin1_aae02 : ByteArray := prog_16_method_154_code
def yJ0_isLatin1_aae02 : MethodName := ⟨RJ0, "isLatin1", "()Z"⟩
abbrev cJ0_checkIndex_df160 : ByteArray := prog_16_method_155_code
def yJ0_checkIndex_df160 : MethodName := ⟨RJ0, "checkIndex", "(II)V"⟩
abbrev cJ0_checkBoundsBeginEnd_23922 : ByteArray := prog_16_method_158_code
def yJ0_checkBoundsBeginEnd_23922 : MethodName := ⟨RJ0, "checkBoundsBeginEnd", "(III)V"⟩
def RJ1 : String := "java/lang/StringLatin1"
def TJ1 : u_T := fun k => match k with
  | _ => ("", "", "", false)
def tyJ1 : Nat → FieldType := fun k => match k with
  | _ => .int
abbrev wsJ10 : List Cond := u_ws RJ1 TJ1 0
theorem nmJ1 : ∀ a, a < 0 → ∀ b, b < 0 → a ≠ b → (TJ1 a).2.1 ≠ (TJ1 b).2.1 := by decide +kernel
theorem tyJ1_ok : ∀ k, k < 0 → parseFieldDescriptor (TJ1 k).2.2.1 = some (tyJ1 k) := by decide +kernel
abbrev cJ1_charAt_3b067 : ByteArray := prog_17_method_2_code
def yJ1_charAt_3b067 : MethodName := ⟨RJ1, "charAt", "([BI)C"⟩
abbrev cJ1_canEncode_9a6ad : ByteArray := prog_17_method_4_code
def yJ1_canEncode_9a6ad : MethodName := ⟨RJ1, "canEncode", "(I)Z"⟩
abbrev cJ1_indexOf_4cfef : ByteArray := prog_17_method_22_code
def yJ1_indexOf_4cfef : MethodName := ⟨RJ1, "indexOf", "([BIII)I"⟩
abbrev cJ1_indexOfChar_4cfef : ByteArray := prog_17_method_23_code
def yJ1_indexOfChar_4cfef : MethodName := ⟨RJ1, "indexOfChar", "([BIII)I"⟩
def RJ2 : String := "java/lang/StringUTF16"
def TJ2 : u_T := fun k => match k with
  | _ => ("", "", "", false)
def tyJ2 : Nat → FieldType := fun k => match k with
  | _ => .int
abbrev wsJ20 : List Cond := u_ws RJ2 TJ2 0
theorem nmJ2 : ∀ a, a < 0 → ∀ b, b < 0 → a ≠ b → (TJ2 a).2.1 ≠ (TJ2 b).2.1 := by decide +kernel
theorem tyJ2_ok : ∀ k, k < 0 → parseFieldDescriptor (TJ2 k).2.2.1 = some (tyJ2 k) := by decide +kernel
abbrev cJ2_getChar_3b067 : ByteArray := prog_18_method_5_code
def yJ2_getChar_3b067 : MethodName := ⟨RJ2, "getChar", "([BI)C"⟩
abbrev cJ2_length_9d52b : ByteArray := prog_18_method_6_code
def yJ2_length_9d52b : MethodName := ⟨RJ2, "length", "([B)I"⟩
abbrev cJ2_indexOf_4cfef : ByteArray := prog_18_method_40_code
def yJ2_indexOf_4cfef : MethodName := ⟨RJ2, "indexOf", "([BIII)I"⟩
abbrev cJ2_indexOfChar_4cfef : ByteArray := prog_18_method_47_code
def yJ2_indexOfChar_4cfef : MethodName := ⟨RJ2, "indexOfChar", "([BIII)I"⟩
abbrev cJ2_indexOfCharUnsafe_4cfef : ByteArray := prog_18_method_48_code
def yJ2_indexOfCharUnsafe_4cfef : MethodName := ⟨RJ2, "indexOfCharUnsafe", "([BIII)I"⟩
abbrev cJ2_indexOfSupplementary_4cfef : ByteArray := prog_18_method_49_code
def yJ2_indexOfSupplementary_4cfef : MethodName := ⟨RJ2, "indexOfSupplementary", "([BIII)I"⟩
abbrev cJ2_charAt_3b067 : ByteArray := prog_18_method_83_code
def yJ2_charAt_3b067 : MethodName := ⟨RJ2, "charAt", "([BI)C"⟩
abbrev cJ2_checkIndex_2214a : ByteArray := prog_18_method_91_code
def yJ2_checkIndex_2214a : MethodName := ⟨RJ2, "checkIndex", "(I[B)V"⟩
abbrev cJ2_checkBoundsBeginEnd_d044e : ByteArray := prog_18_method_93_code
def yJ2_checkBoundsBeginEnd_d044e : MethodName := ⟨RJ2, "checkBoundsBeginEnd", "(II[B)V"⟩
def RJ10 : String := "java/lang/System"
def TJ10 : u_T := fun k => match k with
  | _ => ("", "", "", false)
def tyJ10 : Nat → FieldType := fun k => match k with
  | _ => .int
abbrev wsJ100 : List Cond := u_ws RJ10 TJ10 0
theorem nmJ10 : ∀ a, a < 0 → ∀ b, b < 0 → a ≠ b → (TJ10 a).2.1 ≠ (TJ10 b).2.1 := by decide +kernel
theorem tyJ10_ok : ∀ k, k < 0 → parseFieldDescriptor (TJ10 k).2.2.1 = some (tyJ10 k) := by decide +kernel
def RJ3 : String := "jdk/internal/util/Preconditions"
def TJ3 : u_T := fun k => match k with
  | _ => ("", "", "", false)
def tyJ3 : Nat → FieldType := fun k => match k with
  | _ => .int
abbrev wsJ30 : List Cond := u_ws RJ3 TJ3 0
theorem nmJ3 : ∀ a, a < 0 → ∀ b, b < 0 → a ≠ b → (TJ3 a).2.1 ≠ (TJ3 b).2.1 := by decide +kernel
theorem tyJ3_ok : ∀ k, k < 0 → parseFieldDescriptor (TJ3 k).2.2.1 = some (tyJ3 k) := by decide +kernel
abbrev cJ3_checkIndex_8e157 : ByteArray := prog_20_method_11_code
def yJ3_checkIndex_8e157 : MethodName := ⟨RJ3, "checkIndex", "(IILjava/util/function/BiFunction;)I"⟩
abbrev cJ3_checkFromToIndex_8c36e : ByteArray := prog_20_method_12_code
def yJ3_checkFromToIndex_8c36e : MethodName := ⟨RJ3, "checkFromToIndex", "(IIILjava/util/function/BiFunction;)I"⟩
def RL : String := "AfterEachVowelLaw"
abbrev cL_law : ByteArray := code
abbrev vwCl : List vw_C := [(RX0, TX0, 1), (RX1, TX1, 6), (RX2, TX2, 4), (RX3, TX3, 2), (RX4, TX4, 2), (RX5, TX5, 2), (RX6, TX6, 3), (RX7, TX7, 11), (RX8, TX8, 6), (RX9, TX9, 6), (RX10, TX10, 13), (RX11, TX11, 45)]
end
section
/-- the words that stay good while entries are resolved -/
def GT : List Cond := lw_tbl.filter goodWord
theorem GT_in {w : Cond} (i : Nat) (h : lw_tbl[i]? = some w) (g : goodWord w = true) : w ∈ GT := List.mem_filter.mpr ⟨List.mem_of_getElem? h, g⟩
theorem GT_good : GoodIn GT GT := fun w h => ⟨h, good_of_word (List.mem_filter.mp h).2⟩
def LAY : List Nat := [11, 8, 24, 1010, 1010, 1010, 1010, 1010, 1010, 1010, 1010, 1008, 1008, 1006, 1006, 1006, 4, 1008, 8, 24, 1010, 1010, 1010, 1010, 1010, 1010, 1010, 1010, 1008, 1008, 1006, 1006, 1006, 4, 1008, 20, 9, 1160, 1161, 1161, 1161, 3, 21, 6, 22, 5, 1040, 5, 1040, 5, 1040, 5, 1040, 5, 1040, 5, 1040, 5, 1040, 5, 1040, 5, 1040, 4, 1008, 1, 1006, 2, 23, 4, 1008, 1, 1006, 6, 22, 5, 1040, 5, 1040, 5, 1040, 5, 1040, 5, 1040, 5, 1040, 5, 1040, 5, 1040, 6, 22, 5, 1040, 5, 1040, 5, 1040, 5, 1040, 5, 1040, 5, 1040, 5, 1040, 5, 1040, 6, 22, 5, 1040, 5, 1040, 5, 1040, 5, 1040, 5, 1040, 5, 1040, 5, 1040, 5, 1040, 6, 22, 5, 1040, 5, 1040, 5, 1040, 5, 1040, 5, 1040, 5, 1040, 5, 1040, 5, 1040, 6, 22, 5, 1040, 5, 1040, 5, 1040, 5, 1040, 5, 1040, 5, 1040, 5, 1040, 5, 1040, 6, 22, 5, 1040, 5, 1040, 5, 1040, 5, 1040, 5, 1040, 5, 1040, 5, 1040, 5, 1040, 6, 22, 5, 1040, 5, 1040, 5, 1040, 5, 1040, 5, 1040, 5, 1040, 5, 1040, 5, 1040, 10, 1160, 1160, 1160, 1160, 1003, 10, 1160, 1160, 1160, 1160, 1003, 10, 1160, 1160, 1160, 1160, 1003, 10, 1160, 1160, 1160, 1160, 1003, 10, 1160, 1160, 1160, 1160, 1003, 10, 1160, 1160, 1160, 1160, 1003, 7, 1040, 7, 1040, 7, 1040, 7, 1040, 12, 1080, 1008, 1008, 1006, 1006, 1006, 1008, 1160, 3880, 1018, 5053, 1013, 1170, 4008, 1170, 1006, 1320, 1008, 1042, 1090, 1008, 1144, 1004, 1004, 1160, 1040]
abbrev NC : Nat := 243
abbrev NTT : Nat := 270
def SHP : List (List (Nat × Nat)) := [[], [(1006, 1)], [(23, 1), (4, 2), (1, 4), (0, 1), (0, 0), (0, 0)], [(9, 9999), (10, 9999), (0, 0), (0, 0)], [(1008, 1), (0, 0)], [(1040, 1), (0, 0)], [(22, 1), (0, 0)], [(1040, 1), (0, 0), (0, 0)], [(0, 0), (24, 1), (1008, 10), (1008, 11), (0, 0), (1006, 12), (1006, 13), (1006, 14), (0, 0), (4, 15), (0, 0)], [(1160, 1), (0, 0), (1161, 2), (1161, 3), (1161, 4), (0, 0)], [(1160, 1), (1160, 2), (1160, 3), (1160, 4), (1003, 5), (0, 0)], [(8, 1), (8, 18), (0, 1), (20, 35), (0, 0), (9, 36), (3, 41), (21, 42), (6, 43), (5, 61), (4, 63), (1, 65), (2, 67)], [(0, 0), (0, 0), (1080, 1), (1008, 2), (1008, 3), (0, 0), (1006, 4), (1006, 5), (1006, 6), (0, 0), (1008, 7), (1160, 8), (0, 0), (0, 0), (0, 0), (3880, 9), (1018, 10), (0, 0), (0, 0), (0, 0), (0, 0), (5053, 11), (1013, 12), (1170, 13), (0, 0), (0, 0), (0, 0), (4008, 14), (0, 0), (0, 0), (1170, 15), (1006, 16), (1320, 17), (1008, 18), (1042, 19), (1090, 20), (0, 0), (1008, 21), (0, 0), (0, 1), (1144, 22), (1004, 23), (1004, 24), (1160, 25), (1040, 26)]]
def Rn (k : Nat) : String := [RX0, RX1, RX2, RX3, RX4, RX5, RX6, RX7, RX8, RX9, RX10, RX11, RL].getD k ""
/-- per class: (entry, type of the object, slot, place of its word in lw_tbl) -/
def FTS : List (List (Nat × Nat × Nat × Nat)) := [[(11, 1, 0, 293), (23, 5, 1, 265), (29, 8, 0, 141), (38, 4, 1, 130), (39, 8, 7, 162), (42, 8, 3, 150), (51, 8, 5, 155), (69, 6, 1, 277), (70, 6, 0, 275)],
  [(11, 2, 0, 311), (20, 2, 1, 312), (27, 2, 2, 313), (32, 2, 3, 314), (36, 4, 1, 129), (48, 8, 8, 165), (69, 2, 4, 315), (72, 2, 5, 317)],
  [(9, 3, 0, 234), (15, 3, 1, 235), (19, 3, 2, 236), (23, 3, 3, 237), (47, 9, 5, 214), (50, 9, 2, 208), (54, 9, 4, 212), (57, 9, 1, 206), (111, 9, 3, 210)],
  [(9, 4, 0, 125), (15, 4, 1, 128)],
  [(9, 5, 0, 262), (15, 5, 1, 264), (19, 8, 2, 147), (24, 8, 1, 144), (44, 4, 1, 132), (47, 4, 0, 126), (54, 8, 5, 157), (57, 8, 6, 159), (60, 8, 0, 142), (67, 8, 7, 163)],
  [(11, 6, 0, 274), (18, 8, 4, 151), (24, 6, 1, 276), (50, 5, 1, 267)],
  [(9, 7, 0, 361), (15, 7, 1, 364), (19, 7, 2, 366), (22, 5, 1, 266), (29, 5, 0, 263)],
  [(10, 8, 0, 140), (18, 8, 1, 143), (21, 8, 2, 146), (25, 8, 3, 149), (28, 8, 5, 154), (31, 8, 6, 158), (34, 8, 7, 161), (40, 8, 9, 168), (44, 8, 4, 152), (47, 8, 8, 166), (50, 7, 0, 362), (55, 7, 2, 367), (71, 4, 1, 133), (80, 4, 0, 127), (86, 8, 10, 171)],
  [(9, 9, 0, 203), (15, 9, 2, 207), (18, 9, 3, 209), (21, 9, 4, 211), (24, 9, 1, 205), (28, 9, 5, 213)],
  [(9, 10, 0, 337), (15, 10, 1, 338), (18, 10, 2, 339), (21, 10, 3, 340), (24, 10, 4, 341), (27, 10, 5, 342)],
  [(10, 11, 0, 614), (16, 11, 1, 615), (21, 11, 3, 617), (28, 11, 5, 619), (35, 11, 6, 620), (41, 11, 7, 621), (48, 11, 8, 622), (55, 11, 9, 623), (62, 11, 10, 624), (69, 11, 11, 625), (76, 11, 12, 626), (102, 9, 1, 204), (106, 11, 4, 618), (124, 8, 4, 153), (135, 8, 8, 167), (145, 8, 9, 169), (148, 4, 1, 131), (172, 8, 5, 156), (176, 8, 2, 148), (179, 8, 10, 170), (238, 2, 4, 316), (241, 2, 5, 318), (244, 8, 6, 160), (261, 8, 7, 164), (275, 5, 1, 268), (289, 11, 2, 616), (295, 7, 2, 368), (298, 7, 1, 365), (304, 7, 0, 363), (333, 1, 0, 294), (354, 8, 1, 145)],
  [(1, 12, 1, 1234), (11, 12, 5, 1238), (18, 12, 41, 1274), (22, 12, 42, 1275), (25, 12, 43, 1276), (28, 12, 2, 1235), (31, 12, 3, 1236), (34, 12, 4, 1237), (37, 12, 6, 1239), (40, 12, 7, 1240), (43, 12, 8, 1241), (49, 12, 9, 1242), (52, 12, 10, 1243), (55, 12, 0, 1233), (66, 12, 12, 1245), (69, 12, 11, 1244), (72, 12, 17, 1250), (78, 12, 18, 1251), (81, 12, 22, 1255), (84, 12, 20, 1253), (87, 12, 21, 1254), (91, 12, 19, 1252), (104, 12, 15, 1248), (107, 12, 28, 1261), (110, 12, 29, 1262), (113, 12, 24, 1257), (116, 12, 23, 1256), (123, 12, 25, 1258), (136, 12, 27, 1260), (140, 12, 26, 1259), (153, 12, 16, 1249), (169, 12, 13, 1246), (175, 12, 14, 1247), (184, 12, 30, 1263), (187, 12, 31, 1264), (190, 12, 32, 1265), (193, 12, 33, 1266), (196, 12, 34, 1267), (199, 12, 35, 1268), (202, 12, 37, 1270), (205, 12, 40, 1273), (208, 12, 44, 1277), (226, 12, 36, 1269), (281, 12, 38, 1271), (312, 12, 39, 1272)],
  []]
def CTS : List (Nat × Nat × Int32 × Nat) := [(3, 33, 1103515245, 1045), (7, 9, 1065233, 116), (7, 72, 67108864, 728), (10, 226, (-100000), 939), (11, 65, 67108863, 1151), (11, 183, 1065233, 1232), (11, 271, (-100000), 1447), (11, 302, 1103515245, 1520)]
def LTS : List (Nat × Nat × Int64 × Nat) := [(10, 280, (-4611686018427387904), 1050), (11, 306, (-4611686018427387904), 1525), (11, 320, 3, 1557), (11, 322, 2, 1558)]
theorem inG0 : ∀ w ∈ u_ws RX0 TX0 1, w ∈ GT := by
  have h : u_ws RX0 TX0 1 = ([295] : List Nat).filterMap (fun i => lw_tbl[i]?) := by decide +kernel
  have g : (u_ws RX0 TX0 1).all goodWord = true := by decide +kernel
  intro w hw
  have g1 := List.all_eq_true.mp g w hw
  rw [h] at hw
  obtain ⟨i, -, hi⟩ := List.mem_filterMap.mp hw
  exact GT_in i hi g1
theorem inG1 : ∀ w ∈ u_ws RX1 TX1 6, w ∈ GT := by
  have h : u_ws RX1 TX1 6 = ([319, 321, 323, 325, 327, 329] : List Nat).filterMap (fun i => lw_tbl[i]?) := by decide +kernel
  have g : (u_ws RX1 TX1 6).all goodWord = true := by decide +kernel
  intro w hw
  have g1 := List.all_eq_true.mp g w hw
  rw [h] at hw
  obtain ⟨i, -, hi⟩ := List.mem_filterMap.mp hw
  exact GT_in i hi g1
theorem inG2 : ∀ w ∈ u_ws RX2 TX2 4, w ∈ GT := by
  have h : u_ws RX2 TX2 4 = ([238, 240, 242, 244] : List Nat).filterMap (fun i => lw_tbl[i]?) := by decide +kernel
  have g : (u_ws RX2 TX2 4).all goodWord = true := by decide +kernel
  intro w hw
  have g1 := List.all_eq_true.mp g w hw
  rw [h] at hw
  obtain ⟨i, -, hi⟩ := List.mem_filterMap.mp hw
  exact GT_in i hi g1
theorem inG3 : ∀ w ∈ u_ws RX3 TX3 2, w ∈ GT := by
  have h : u_ws RX3 TX3 2 = ([134, 136] : List Nat).filterMap (fun i => lw_tbl[i]?) := by decide +kernel
  have g : (u_ws RX3 TX3 2).all goodWord = true := by decide +kernel
  intro w hw
  have g1 := List.all_eq_true.mp g w hw
  rw [h] at hw
  obtain ⟨i, -, hi⟩ := List.mem_filterMap.mp hw
  exact GT_in i hi g1
theorem inG4 : ∀ w ∈ u_ws RX4 TX4 2, w ∈ GT := by
  have h : u_ws RX4 TX4 2 = ([269, 271] : List Nat).filterMap (fun i => lw_tbl[i]?) := by decide +kernel
  have g : (u_ws RX4 TX4 2).all goodWord = true := by decide +kernel
  intro w hw
  have g1 := List.all_eq_true.mp g w hw
  rw [h] at hw
  obtain ⟨i, -, hi⟩ := List.mem_filterMap.mp hw
  exact GT_in i hi g1
theorem inG5 : ∀ w ∈ u_ws RX5 TX5 2, w ∈ GT := by
  have h : u_ws RX5 TX5 2 = ([278, 280] : List Nat).filterMap (fun i => lw_tbl[i]?) := by decide +kernel
  have g : (u_ws RX5 TX5 2).all goodWord = true := by decide +kernel
  intro w hw
  have g1 := List.all_eq_true.mp g w hw
  rw [h] at hw
  obtain ⟨i, -, hi⟩ := List.mem_filterMap.mp hw
  exact GT_in i hi g1
theorem inG6 : ∀ w ∈ u_ws RX6 TX6 3, w ∈ GT := by
  have h : u_ws RX6 TX6 3 = ([369, 371, 373] : List Nat).filterMap (fun i => lw_tbl[i]?) := by decide +kernel
  have g : (u_ws RX6 TX6 3).all goodWord = true := by decide +kernel
  intro w hw
  have g1 := List.all_eq_true.mp g w hw
  rw [h] at hw
  obtain ⟨i, -, hi⟩ := List.mem_filterMap.mp hw
  exact GT_in i hi g1
theorem inG7 : ∀ w ∈ u_ws RX7 TX7 11, w ∈ GT := by
  have h : u_ws RX7 TX7 11 = ([172, 174, 176, 178, 180, 182, 184, 186, 188, 190, 192] : List Nat).filterMap (fun i => lw_tbl[i]?) := by decide +kernel
  have g : (u_ws RX7 TX7 11).all goodWord = true := by decide +kernel
  intro w hw
  have g1 := List.all_eq_true.mp g w hw
  rw [h] at hw
  obtain ⟨i, -, hi⟩ := List.mem_filterMap.mp hw
  exact GT_in i hi g1
theorem inG8 : ∀ w ∈ u_ws RX8 TX8 6, w ∈ GT := by
  have h : u_ws RX8 TX8 6 = ([215, 217, 219, 221, 223, 225] : List Nat).filterMap (fun i => lw_tbl[i]?) := by decide +kernel
  have g : (u_ws RX8 TX8 6).all goodWord = true := by decide +kernel
  intro w hw
  have g1 := List.all_eq_true.mp g w hw
  rw [h] at hw
  obtain ⟨i, -, hi⟩ := List.mem_filterMap.mp hw
  exact GT_in i hi g1
theorem inG9 : ∀ w ∈ u_ws RX9 TX9 6, w ∈ GT := by
  have h : u_ws RX9 TX9 6 = ([343, 345, 347, 349, 351, 353] : List Nat).filterMap (fun i => lw_tbl[i]?) := by decide +kernel
  have g : (u_ws RX9 TX9 6).all goodWord = true := by decide +kernel
  intro w hw
  have g1 := List.all_eq_true.mp g w hw
  rw [h] at hw
  obtain ⟨i, -, hi⟩ := List.mem_filterMap.mp hw
  exact GT_in i hi g1
theorem inG10 : ∀ w ∈ u_ws RX10 TX10 13, w ∈ GT := by
  have h : u_ws RX10 TX10 13 = ([627, 629, 631, 633, 635, 637, 639, 641, 643, 645, 647, 649, 651] : List Nat).filterMap (fun i => lw_tbl[i]?) := by decide +kernel
  have g : (u_ws RX10 TX10 13).all goodWord = true := by decide +kernel
  intro w hw
  have g1 := List.all_eq_true.mp g w hw
  rw [h] at hw
  obtain ⟨i, -, hi⟩ := List.mem_filterMap.mp hw
  exact GT_in i hi g1
theorem inG11 : ∀ w ∈ u_ws RX11 TX11 45, w ∈ GT := by
  have h : u_ws RX11 TX11 45 = ([1278, 1280, 1282, 1284, 1286, 1288, 1290, 1292, 1294, 1296, 1298, 1300, 1302, 1304, 1306, 1308, 1310, 1312, 1314, 1316, 1318, 1320, 1322, 1324, 1326, 1328, 1330, 1332, 1334, 1336, 1338, 1340, 1342, 1344, 1346, 1348, 1350, 1352, 1354, 1356, 1358, 1360, 1362, 1364, 1366] : List Nat).filterMap (fun i => lw_tbl[i]?) := by decide +kernel
  have g : (u_ws RX11 TX11 45).all goodWord = true := by decide +kernel
  intro w hw
  have g1 := List.all_eq_true.mp g w hw
  rw [h] at hw
  obtain ⟨i, -, hi⟩ := List.mem_filterMap.mp hw
  exact GT_in i hi g1
end
section
abbrev AV : Type := Int32 ⊕ (Int64 ⊕ (Nat × Nat))
abbrev vI (x : Int32) : AV := .inl x
abbrev vJ (x : Int64) : AV := .inr (.inl x)
abbrev vR (t h : Nat) : AV := .inr (.inr (t, h))
abbrev vU : AV := .inr (.inr (0, 0))
/-- what the cells hold, by handle and slot -/
abbrev Mem : Type := Nat → Nat → Int32
def mSr (m : Mem) (h : Nat) (f : Nat → Int32) : Mem := fun a => if a = h then f else m a
def mUp (m : Mem) (h k : Nat) (x : Int32) : Mem := mSr m h (upd (m h) k x)
theorem mSr_s (m : Mem) (h : Nat) (f : Nat → Int32) : mSr m h f h = f := if_pos rfl
theorem mSr_n {m : Mem} {h a : Nat} {f : Nat → Int32} (n : a ≠ h) : mSr m h f a = m a := if_neg n
theorem mUp_s (m : Mem) (h k : Nat) (x : Int32) : mUp m h k x h k = x := by simp [mUp, mSr, upd]
theorem mUp_n {m : Mem} {h k a j : Nat} {x : Int32} (n : a ≠ h ∨ j ≠ k) : mUp m h k x a j = m a j := by
  unfold mUp mSr
  by_cases e : a = h
  · subst e
    rcases n with n | n
    · exact absurd rfl n
    · simp [upd, n]
  · simp [e]
theorem mUp_a {m : Mem} {h k a : Nat} {x : Int32} (n : a ≠ h) : mUp m h k x a = m a := mSr_n n
/-- type of the cell with that handle -/
def layT (h : Nat) : Nat := LAY.getD h 0
def shp (t : Nat) : List (Nat × Nat) := SHP.getD t []
def RTB : List (Nat × Nat × Nat × Nat) := [(6, 164, 6, 10), (4, 193, 2, 7), (8, 1, 2, 5), (7, 5, 18, 6), (8, 1, 1, 1010)]
def rtb (t : Nat) : Nat × Nat × Nat × Nat := RTB.getD (t - 20) (0, 0, 0, 0)
def rlen (t : Nat) : Nat := (rtb t).1
def roff (t : Nat) : Nat := (rtb t).2.1
def rstr (t : Nat) : Nat := (rtb t).2.2.1
def rty (t : Nat) : Nat := (rtb t).2.2.2
/-- first cell, how many, classes and slots, array classes, other addresses, the script -/
abbrev XT : Type := Nat × Nat × va_G × (Nat → ClassId) × (Nat → Nat) × (Nat × (Nat → Int32))
def xb (X : XT) : Nat := X.1
def xN (X : XT) : Nat := X.2.1
def xD (X : XT) : va_G := X.2.2.1
def xc (X : XT) : Nat → ClassId := X.2.2.2.1
def xa (X : XT) : Nat → Nat := X.2.2.2.2.1
def isX (t : Nat) : Bool := t == 50 || (t == 51 || t == 52)
def aof (X : XT) (t h : Nat) : Nat := if isX t then xa X (if t = 50 then h else if t = 51 then 100 else 101) else xb X + h
def cv (X : XT) (v : AV) : Value := match v with
  | .inl x => .int x
  | .inr (.inl x) => .long x
  | .inr (.inr q) => .ref (aof X q.1 q.2)
/-- in the world: nothing known, or outside it, or a cell of that type -/
def okr (X : XT) (t h : Nat) : Prop := t = 0 ∨ (isX t = true ∧ (t = 50 → h < 14)) ∨ (isX t = false ∧ h < xN X ∧ layT h = t)
def okv (X : XT) (v : AV) : Prop := match v with
  | .inl _ => True
  | .inr (.inl _) => True
  | .inr (.inr q) => okr X q.1 q.2
def okl (X : XT) (vs : List AV) : Prop := ∀ v ∈ vs, okv X v
def slotV (X : XT) (m : Mem) (h k : Nat) (q : Nat × Nat) : Value :=
  if q.1 = 0 then .int (m h k) else if q.2 = 9999 then .ref (xb X + (m h k).toNatClampNeg) else .ref (xb X + (h + q.2))
def fsOf (X : XT) (m : Mem) (h t : Nat) : List Value := (List.range (shp t).length).map (fun k => slotV X m h k ((shp t).getD k (0, 0)))
def celE (X : XT) (m : Mem) (h : Nat) : va_E :=
  if layT h < 20 then .inr (layT h - 1, fsOf X m h (layT h))
  else if layT h < 50 then .inl (xc X (layT h), rlen (layT h), .inr (.inr (.inr (.inr (fun i => some (xb X + (h + roff (layT h) + rstr (layT h) * i)))))))
  else if layT h < 4000 then .inl (xc X 0, layT h - 1000, .inl (m h))
  else if layT h < 5000 then .inl (xc X 1, layT h - 4000, .inl (m h))
  else .inl (xc X 2, layT h - 5000, .inl (m h))
def wsOf (X : XT) (m : Mem) : va_W := (List.range (xN X)).map (fun h => (xb X + h, celE X m h))
def xA (X : XT) : Nat → Prop := fun q => xb X ≤ q
def tysOf (X : XT) : List (ClassId × FieldType) := [(xc X 0, .int), (xc X 1, .boolean), (xc X 2, .char), (xc X 20, .object RX9), (xc X 21, .object RX6), (xc X 22, .object RX4), (xc X 23, .object RX5), (xc X 24, .array .int)]
theorem ws_get (X : XT) (m : Mem) {h : Nat} (hh : h < xN X) : (wsOf X m)[h]? = some (xb X + h, celE X m h) := by
  simp [wsOf, List.getElem?_range hh]
theorem ws_len (X : XT) (m : Mem) : (wsOf X m).length = xN X := by simp [wsOf]
theorem celE_ne {X : XT} {m : Mem} {h a : Nat} {f : Nat → Int32} (n : a ≠ h) : celE X (mSr m h f) a = celE X m a := by
  have e : mSr m h f a = m a := mSr_n n
  have e2 : fsOf X (mSr m h f) a (layT a) = fsOf X m a (layT a) := by
    unfold fsOf
    refine List.map_congr_left fun k _ => ?_
    unfold slotV
    rw [e]
  unfold celE
  rw [e, e2]
theorem ws_row (X : XT) (m : Mem) (h : Nat) (f : Nat → Int32) : wsOf X (mSr m h f) = (wsOf X m).set h (xb X + h, celE X (mSr m h f) h) := by
  apply List.ext_getElem?
  intro j
  by_cases hj : j < xN X
  · rw [ws_get X _ hj, List.getElem?_set]
    by_cases e : h = j
    · subst e
      rw [if_pos rfl, if_pos (by rw [ws_len]; exact hj)]
    · rw [if_neg e, ws_get X _ hj, celE_ne (fun q => e q.symm)]
  · rw [List.getElem?_eq_none (by rw [ws_len]; omega), List.getElem?_eq_none (by rw [List.length_set, ws_len]; omega)]
theorem ws_D (X : XT) (m : Mem) : va_D (xA X) (wsOf X m) := by
  refine ⟨fun i j p q hp hq e => ?_, fun k q hq => ?_⟩
  · have hi : i < xN X := by
      have := (List.getElem?_eq_some_iff.mp hp).1
      rwa [ws_len] at this
    have hj : j < xN X := by
      have := (List.getElem?_eq_some_iff.mp hq).1
      rwa [ws_len] at this
    rw [ws_get X m hi] at hp
    rw [ws_get X m hj] at hq
    cases hp
    cases hq
    have e : xb X + i = xb X + j := e
    omega
  · have hk : k < xN X := by
      have := (List.getElem?_eq_some_iff.mp hq).1
      rwa [ws_len] at this
    rw [ws_get X m hk] at hq
    cases hq
    exact Nat.le_add_right _ _
/-- locals: what is known of each place -/
def unk (v : AV) : Bool := match v with
  | .inr (.inr q) => q.1 == 0
  | _ => false
def lRep (X : XT) (ls : List AV) (la : Array Slot) : Prop := la.size = ls.length ∧ lv_wf la ∧ ∀ (k : Nat) (v : AV), ls[k]? = some v → unk v = false → la[k]? = some (.val (cv X v))
def asc (X : XT) (ls : List AV) : List (Nat × Value) := (List.range ls.length).filterMap (fun k => match ls[k]? with
  | some v => if unk v then none else some (k, cv X v)
  | none => none)
theorem asc_mem {X : XT} {ls : List AV} {q : Nat × Value} : q ∈ asc X ls ↔ ∃ v, ls[q.1]? = some v ∧ unk v = false ∧ q.2 = cv X v := by
  unfold asc
  rw [List.mem_filterMap]
  constructor
  · rintro ⟨k, -, hk⟩
    cases hl : ls[k]? with
    | none => simp [hl] at hk
    | some v =>
      simp only [hl] at hk
      by_cases hu : unk v = true
      · simp [hu] at hk
      · simp only [hu] at hk
        cases hk
        exact ⟨v, hl, by simpa using hu, rfl⟩
  · rintro ⟨v, h1, h2, h3⟩
    refine ⟨q.1, List.mem_range.mpr (List.getElem?_eq_some_iff.mp h1).1, ?_⟩
    simp only [h1, h2]
    cases q
    cases h3
    rfl
theorem lRep_has {X : XT} {ls : List AV} {la : Array Slot} (h : lRep X ls la) : lv_has la ls.length (asc X ls) := by
  refine ⟨h.1, h.2.1, fun q hq => ?_⟩
  obtain ⟨v, h1, h2, h3⟩ := asc_mem.mp hq
  rw [h3]
  exact h.2.2 _ _ h1 h2
theorem lRep_of {X : XT} {ls : List AV} {la : Array Slot} {nL : Nat} {l : List (Nat × Value)} (h : lv_has la nL l) (hn : nL = ls.length) (hs : ∀ (k : Nat) (v : AV), ls[k]? = some v → unk v = false → (k, cv X v) ∈ l) : lRep X ls la :=
  ⟨h.1.trans hn, h.2.1, fun k v h1 h2 => h.2.2 (k, cv X v) (hs k v h1 h2)⟩
theorem lRep_get {X : XT} {ls : List AV} {la : Array Slot} (h : lRep X ls la) {k : Nat} {v : AV} (hk : ls.getD k vU = v) (hu : unk v = false) : la[k]? = some (.val (cv X v)) := by
  rw [List.getD_eq_getElem?_getD] at hk
  cases hl : ls[k]? with
  | none =>
    rw [hl] at hk
    subst hk
    simp [unk] at hu
  | some w =>
    rw [hl] at hk
    have hk : w = v := hk
    subst hk
    exact h.2.2 k w hl hu
/-- nothing of two words ends at k -/
def noL (ls : List AV) (k : Nat) : Bool := match k with
  | 0 => true
  | j + 1 => match ls[j]? with
    | some (.inr (.inl _)) => false
    | _ => true
theorem cat_I (X : XT) (x : Int32) : (cv X (vI x)).category = 1 := rfl
theorem cat_2 {X : XT} {v : AV} (h : (cv X v).category = 2) : ∃ x, v = vJ x := by
  rcases v with x | x | q
  · cases h
  · exact ⟨x, rfl⟩
  · cases h
theorem lRep_set {X : XT} {ls : List AV} {la : Array Slot} {i : Nat} {v : AV} (hi : i < ls.length) (hno : noL ls i = true)
    (h : lv_has la ls.length ((i, cv X v) :: (asc X ls).filter (fun q => !(q.1 == i) && !(q.1 + 1 == i && q.2.category == 2)))) : lRep X (ls.set i v) la := by
  refine lRep_of h (by simp) (fun k w hk hu => ?_)
  rw [List.getElem?_set] at hk
  by_cases e : i = k
  · subst e
    rw [if_pos rfl, if_pos hi] at hk
    cases hk
    exact List.mem_cons_self
  · rw [if_neg e] at hk
    refine List.mem_cons_of_mem _ (List.mem_filter.mpr ⟨asc_mem.mpr ⟨w, hk, hu, rfl⟩, ?_⟩)
    have e1 : ¬ k = i := fun q => e q.symm
    by_cases e2 : k + 1 = i
    · have hc : ¬ (cv X w).category = 2 := by
        intro h2
        obtain ⟨x, rfl⟩ := cat_2 h2
        subst e2
        simp [noL, hk] at hno
      simp [e1, hc]
    · simp [e1, e2]
theorem lRep_set2 {X : XT} {ls : List AV} {la : Array Slot} {i : Nat} {v : AV} (hi : i + 1 < ls.length) (hno : noL ls i = true)
    (h : lv_has la ls.length ((i, cv X v) :: (asc X ls).filter (fun q => !(q.1 == i) && (!(q.1 == i + 1) && !(q.1 + 1 == i && q.2.category == 2))))) : lRep X ((ls.set i v).set (i + 1) vU) la := by
  refine lRep_of h (by simp) (fun k w hk hu => ?_)
  rw [List.getElem?_set] at hk
  by_cases e : i + 1 = k
  · subst e
    rw [if_pos rfl, if_pos (by simpa using hi)] at hk
    cases hk
    simp [unk] at hu
  · rw [if_neg e, List.getElem?_set] at hk
    by_cases e0 : i = k
    · subst e0
      rw [if_pos rfl, if_pos (by omega)] at hk
      cases hk
      exact List.mem_cons_self
    · rw [if_neg e0] at hk
      refine List.mem_cons_of_mem _ (List.mem_filter.mpr ⟨asc_mem.mpr ⟨w, hk, hu, rfl⟩, ?_⟩)
      have e1 : ¬ k = i := fun q => e0 q.symm
      have e3 : ¬ k = i + 1 := fun q => e q.symm
      by_cases e2 : k + 1 = i
      · have hc : ¬ (cv X w).category = 2 := by
          intro h2
          obtain ⟨x, rfl⟩ := cat_2 h2
          subst e2
          simp [noL, hk] at hno
        simp [e1, e3, hc]
      · simp [e1, e2, e3]
end
section
def NWS : List (String × Nat × MethodName × String) := [("AfterEachVowel", 9, ⟨"AfterEachVowel$State", "<init>", "()V"⟩, "AfterEachVowel"), ("AfterEachVowel$State", 39, ⟨"AfterEachVowel$Row", "<init>", "()V"⟩, "AfterEachVowel"), ("AfterEachVowel", 27, ⟨"AfterEachVowel$Tape", "<init>", "()V"⟩, "AfterEachVowel"), ("AfterEachVowel", 34, ⟨"AfterEachVowel$Parser", "<init>", "()V"⟩, "AfterEachVowel"), ("AfterEachVowel$Sayings", 17, ⟨"AfterEachVowel$Saying", "<init>", "()V"⟩, "AfterEachVowel"), ("AfterEachVowel", 54, ⟨"AfterEachVowel$Saying", "<init>", "()V"⟩, "AfterEachVowel"), ("AfterEachVowel", 61, ⟨"AfterEachVowel$Row", "<init>", "()V"⟩, "AfterEachVowel"), ("AfterEachVowel", 68, ⟨"AfterEachVowel$Judge", "<init>", "()V"⟩, "AfterEachVowel"), ("AfterEachVowel$Orders", 19, ⟨"AfterEachVowel$Row", "<init>", "()V"⟩, "AfterEachVowel"), ("AfterEachVowel$Orders", 26, ⟨"AfterEachVowel$Judge", "<init>", "()V"⟩, "AfterEachVowel"), ("AfterEachVowel", 80, ⟨"AfterEachVowel$Text", "<init>", "()V"⟩, "AfterEachVowel"), ("AfterEachVowel", 81, ⟨"AfterEachVowel$Sheet", "<init>", "()V"⟩, "AfterEachVowel"), ("AfterEachVowel$Sheet", 38, ⟨"AfterEachVowel", "isLetter", "(I)Z"⟩, "AfterEachVowel"), ("AfterEachVowel$State", 73, ⟨"AfterEachVowel", "isWithin", "(II)Z"⟩, "AfterEachVowel"), ("AfterEachVowel$State", 77, ⟨"AfterEachVowel", "isLetter", "(I)Z"⟩, "AfterEachVowel")]
def SRF : List (Nat × Nat × String × Nat) := [(10, 82, "hard long + vowels ; hides rules * 5 ; minds weight ;", 0), (8, 71, "long", 1), (8, 73, "vowels", 2), (8, 75, "rules", 3), (8, 77, "number", 4), (8, 79, "word", 5), (8, 81, "weight", 6), (8, 83, "hard", 7), (8, 85, "hides", 8), (8, 87, "minds", 9), (8, 89, "or", 10), (8, 91, "and", 11), (8, 93, "not", 12), (8, 48, "();+-*<=", 13)]
def SLN : List Nat := [53, 4, 6, 5, 6, 4, 6, 4, 5, 5, 2, 3, 3, 8]
def SBY : List (List Int32) := [[104, 97, 114, 100, 32, 108, 111, 110, 103, 32, 43, 32, 118, 111, 119, 101, 108, 115, 32, 59, 32, 104, 105, 100, 101, 115, 32, 114, 117, 108, 101, 115, 32, 42, 32, 53, 32, 59, 32, 109, 105, 110, 100, 115, 32, 119, 101, 105, 103, 104, 116, 32, 59], [108, 111, 110, 103], [118, 111, 119, 101, 108, 115], [114, 117, 108, 101, 115], [110, 117, 109, 98, 101, 114], [119, 111, 114, 100], [119, 101, 105, 103, 104, 116], [104, 97, 114, 100], [104, 105, 100, 101, 115], [109, 105, 110, 100, 115], [111, 114], [97, 110, 100], [110, 111, 116], [40, 41, 59, 43, 45, 42, 60, 61]]
def UND : List Int32 := [-1, 0, 0, 1, 2, 0]
/-- nest words hold; strings, statics and the script lie outside the world and are as they were -/
def KS (X : XT) (U : State) (H : Heap) : Prop :=
  (∀ q ∈ NWS, va_Nw (.methodLinkNest q.1 q.2.1 q.2.2.1 q.2.2.2) U) ∧ (∀ q ∈ SRF, vk_R (Rn q.1) q.2.1 q.2.2.1 (xa X q.2.2.2) U) ∧
  vk_S 14 SLN SBY (xa X) (fun k => xa X (200 + k)) (xA X) U H ∧
  va_Z "java/lang/String" "COMPACT_STRINGS" "Z" (.int 1) (xA X) U H ∧ va_Zq "jdk/internal/util/Preconditions" "SIOOBE_FORMATTER" "Ljava/util/function/BiFunction;" (xA X) U H ∧
  va_Z RX10 "UNDER" "[I" (.ref (xa X 100)) (xA X) U H ∧ va_T .int (xa X 100) 6 (fun j => .int (UND.getD j 0)) (xA X) U H ∧
  va_X (xa X 101) X.2.2.2.2.2.1 X.2.2.2.2.2.2 U H ∧ xa X 101 < xb X
theorem KS.go {X : XT} {s U : State} {H H1 : Heap} (h : KS X s H) (hW : s.WarmedH U.vm) (hb : xb X ≤ H.size) (hq : ∀ a : Nat, a < H.size → ¬ xA X a → H1[a]? = H[a]?) : KS X U H1 := by
  obtain ⟨h1, h2, h3, h4, h5, h6, h7, h8, h9⟩ := h
  have hvm := hW.alike
  refine ⟨fun q hq => (h1 q hq).warmM hW, fun q hq => (h2 q hq).warm hW, (h3.moved hvm).kept hq, (h4.moved hvm).kept hq, ?_, (h6.moved hvm).kept hq, (h7.moved hvm).kept hq, (h8.moved hvm).kept (hq _ (by omega) (Nat.not_le.mpr h9)), h9⟩
  rcases h5 with h5 | ⟨t, h5⟩
  · exact Or.inl ((h5.moved hvm).kept hq)
  · exact Or.inr ⟨t, (h5.moved hvm).kept hq⟩
end
section
/-- an instruction of a method: its place; the instruction, the next place, the target, a number -/
abbrev PE : Type := Nat × Instr × Nat × Nat × Int32
/-- a method: name, bytes, locals, type, class, instructions -/
abbrev MI : Type := MethodName × ByteArray × Nat × Option FieldType × Nat × List PE
/-- where a walk stands: launch, world, room, cells and slots made, method, end -/
abbrev GG : Type := Launch × XT × Room × Nat × Nat × MI × (List Frame → Array Value → State → State → Prop)
def ilen (i : Instr) : Nat := match i with
  | .iload _ | .lload _ | .aload _ | .istore _ | .lstore _ | .astore _ | .bipush _ | .ldc _ | .newarray _ => 2
  | .sipush _ | .iinc _ _ | .ifCond _ _ | .if_icmp _ _ | .goto _ | .getfield _ | .putfield _ | .getstatic _ | .invokevirtual _ | .invokespecial _ | .invokestatic _ | .new _ | .anewarray _ | .ldc_w _ | .ldc2_w _ => 3
  | .multianewarray _ _ => 4
  | _ => 1
def isSw (i : Instr) : Bool := match i with
  | .tableswitch _ _ _ _ | .lookupswitch _ _ => true
  | _ => false
def litE (own : Nat) (i : Instr) (pc tg : Nat) (lit : Int32) : Bool := match i with
  | .iconst n => Int32.ofInt n == lit
  | .bipush n => (Int8.ofInt n).toInt32 == lit
  | .sipush n => (Int16.ofInt n).toInt32 == lit
  | .iinc _ n => Int32.ofInt n == lit
  | .goto o | .ifCond _ o | .if_icmp _ o => (pc : Int) + o == (tg : Int)
  | .ldc x | .ldc_w x => (tg == 999 && CTS.any (fun q => q.1 == own && (q.2.1 == x && q.2.2.1 == lit))) || SRF.any (fun q => q.1 == own && (q.2.1 == x && q.2.2.2 == tg))
  | _ => true
def okE (own : Nat) (cc : ByteArray) (e : PE) : Bool :=
  decide (decode cc e.1 = .ok (e.2.1, e.2.2.1 - e.1)) && ((isSw e.2.1 || e.2.2.1 == e.1 + ilen e.2.1) && litE own e.2.1 e.1 e.2.2.2.1 e.2.2.2.2)
def okP (own : Nat) (cc : ByteArray) (pr : List PE) : Bool := pr.all (okE own cc)
theorem lookup_mem {pr : List PE} {pc : Nat} {q : Instr × Nat × Nat × Int32} (h : pr.lookup pc = some q) : (pc, q) ∈ pr := by
  induction pr with
  | nil => simp at h
  | cons a r ih =>
    obtain ⟨a1, a2⟩ := a
    rw [List.lookup_cons] at h
    by_cases e : (pc == a1) = true
    · rw [e] at h
      cases h
      have e2 : pc = a1 := by simpa using e
      subst e2
      exact List.mem_cons_self
    · have e2 : (pc == a1) = false := by simpa using e
      rw [e2] at h
      exact List.mem_cons_of_mem _ (ih h)
theorem fetch_ok {own : Nat} {cc : ByteArray} {pr : List PE} (hok : okP own cc pr = true) {pc : Nat} {q : Instr × Nat × Nat × Int32} (hf : pr.lookup pc = some q) :
    decode cc pc = .ok (q.1, q.2.1 - pc) ∧ (isSw q.1 = false → q.2.1 = pc + ilen q.1) ∧ litE own q.1 pc q.2.2.1 q.2.2.2 = true := by
  have h := List.all_eq_true.mp hok _ (lookup_mem hf)
  simp only [okE, Bool.and_eq_true, Bool.or_eq_true, decide_eq_true_eq, beq_iff_eq] at h
  refine ⟨h.1, fun hs => ?_, h.2.2⟩
  rcases h.2.1 with h1 | h1
  · rw [hs] at h1
    cases h1
  · exact h1
theorem fetch_1 {own : Nat} {cc : ByteArray} {pr : List PE} (hok : okP own cc pr = true) {pc np tg : Nat} {i : Instr} {lit : Int32} (hf : pr.lookup pc = some (i, np, tg, lit)) (hs : isSw i = false) : decode cc pc = .ok (i, ilen i) ∧ np = pc + ilen i := by
  obtain ⟨h1, h2, -⟩ := fetch_ok hok hf
  have h2 : np = pc + ilen i := h2 hs
  refine ⟨?_, h2⟩
  have h1 : decode cc pc = .ok (i, np - pc) := h1
  rw [h1, h2, Nat.add_sub_cancel_left]
def Cx (G : GG) (p : Program) (e : Env) (s : State) (mid : MethodId) (args : Array Value) (meth : Method) (c : Code) : Prop :=
  p.tables.exec = Jvm.exec ∧ c.code = G.2.2.2.2.2.1.2.1 ∧ meth.sig.returnType = G.2.2.2.2.2.1.2.2.2.1 ∧ c.maxLocals = G.2.2.2.2.2.1.2.2.1 ∧ s.vm.findClass (Rn G.2.2.2.2.2.1.2.2.2.2.1) = some mid.cls ∧ (∀ w ∈ GT, w.before args s = true) ∧ meth.locks = false ∧
  va_K (xD G.2.1) vwCl (tysOf G.2.1) s ∧ KS G.2.1 s s.heap ∧ (xN G.2.1 = NC ∨ xN G.2.1 = NTT) ∧ xb G.2.1 ≤ s.heap.size ∧ G.2.2.2.1 ≤ G.2.2.1.cells ∧ G.2.2.2.2.1 ≤ G.2.2.1.slots ∧ okP G.2.2.2.2.2.1.2.2.2.2.1 G.2.2.2.2.2.1.2.1 G.2.2.2.2.2.1.2.2.2.2.2 = true
/-- the walk ends well from here -/
def AW (G : GG) (pc : Nat) (ls st : List AV) (m : Mem) : Prop :=
  ls.length = G.2.2.2.2.2.1.2.2.1 → okl G.2.1 ls → okl G.2.1 st → ∀ (p : Program) (e : Env) (s : State) (mid : MethodId) (args : Array Value) (below : List Frame) (meth : Method) (c : Code), Cx G p e s mid args meth c →
    ∀ (H : Heap) (locs : List Loc) (la : Array Slot), va_P (xD G.2.1) vwCl (wsOf G.2.1 m) H → va_S (xA G.2.1) s.heap H locs → lRep G.2.1 ls la →
      W p G.1 e G.2.2.1 s mid args below meth c H locs G.2.2.2.1 G.2.2.2.2.1 (G.2.2.2.2.2.2 below args s) (F0 mid pc la (st.map (cv G.2.1)))
-- ===== one instruction, over what is known =====
abbrev AR : Type := Option (Prop × Nat × List AV × List AV × Mem)
def sBin (f : Int32 → Int32 → Int32) (np : Nat) (ls st : List AV) (m : Mem) : AR := match st with
  | .inl y :: .inl x :: r => some (True, np, ls, .inl (f x y) :: r, m)
  | _ => none
def sDiv (f : Int32 → Int32 → Int32) (np : Nat) (ls st : List AV) (m : Mem) : AR := match st with
  | .inl y :: .inl x :: r => some (¬ y = 0, np, ls, .inl (f x y) :: r, m)
  | _ => none
def sUn (f : Int32 → Int32) (np : Nat) (ls st : List AV) (m : Mem) : AR := match st with
  | .inl x :: r => some (True, np, ls, .inl (f x) :: r, m)
  | _ => none
def sBinJ (f : Int64 → Int64 → Int64) (np : Nat) (ls st : List AV) (m : Mem) : AR := match st with
  | .inr (.inl y) :: .inr (.inl x) :: r => some (True, np, ls, .inr (.inl (f x y)) :: r, m)
  | _ => none
def sDivJ (f : Int64 → Int64 → Int64) (np : Nat) (ls st : List AV) (m : Mem) : AR := match st with
  | .inr (.inl y) :: .inr (.inl x) :: r => some (¬ y = 0, np, ls, .inr (.inl (f x y)) :: r, m)
  | _ => none
def sLd (k : Nat) (c : Nat) (np : Nat) (ls st : List AV) (m : Mem) : AR := match ls.getD k vU with
  | .inl x => if c == 0 then some (True, np, ls, .inl x :: st, m) else none
  | .inr (.inl x) => if c == 1 then some (True, np, ls, .inr (.inl x) :: st, m) else none
  | .inr (.inr q) => if c == 2 && !(q.1 == 0) then some (True, np, ls, .inr (.inr q) :: st, m) else none
def sSt (k : Nat) (c : Nat) (np : Nat) (ls st : List AV) (m : Mem) : AR := match st with
  | .inl x :: r => if c == 0 && (decide (k < ls.length) && noL ls k) then some (True, np, ls.set k (.inl x), r, m) else none
  | .inr (.inl x) :: r => if c == 1 && (decide (k + 1 < ls.length) && noL ls k) then some (True, np, (ls.set k (.inr (.inl x))).set (k + 1) vU, r, m) else none
  | .inr (.inr q) :: r => if c == 2 && (decide (k < ls.length) && noL ls k) then some (True, np, ls.set k (.inr (.inr q)), r, m) else none
  | _ => none
def sInc (k : Nat) (lit : Int32) (np : Nat) (ls st : List AV) (m : Mem) : AR := match ls.getD k vU with
  | .inl x => if noL ls k then some (True, np, ls.set k (.inl (x + lit)), st, m) else none
  | _ => none
def ftO (own idx : Nat) : Option (Nat × Nat × Nat) := (FTS.getD own []).lookup idx
def sGet (own idx np : Nat) (ls st : List AV) (m : Mem) : AR := match st with
  | .inr (.inr (t, h)) :: r => match ftO own idx with
    | some (t', k, _) => if t == t' then (match (shp t).getD k (0, 0) with
        | (t2, o) => if t2 == 0 then some (True, np, ls, .inl (m h k) :: r, m) else if o == 9999 then some (layT (m h k).toNatClampNeg = t2, np, ls, .inr (.inr (t2, (m h k).toNatClampNeg)) :: r, m) else some (True, np, ls, .inr (.inr (t2, h + o)) :: r, m)) else none
    | none => none
  | _ => none
def sPut (own idx np : Nat) (ls st : List AV) (m : Mem) : AR := match st with
  | .inl x :: .inr (.inr (t, h)) :: r => match ftO own idx with
    | some (t', k, _) => if t == t' then (match (shp t).getD k (1, 0) with
        | (0, 0) => some (True, np, ls, r, mUp m h k x)
        | (0, 1) => some (x = 0 ∨ x = 1, np, ls, r, mUp m h k x)
        | _ => none) else none
    | none => none
  | .inr (.inr (t2, h2)) :: .inr (.inr (t, h)) :: r => match ftO own idx with
    | some (t', k, _) => if t == t' && (t2 == ((shp t).getD k (0, 0)).1 && (((shp t).getD k (0, 0)).2 == 9999 && !(t2 == 0))) then some (True, np, ls, r, mUp m h k (Int32.ofNat h2)) else none
    | none => none
  | _ => none
def sAld (lo hi : Nat) (np : Nat) (ls st : List AV) (m : Mem) : AR := match st with
  | .inl i :: .inr (.inr (t, h)) :: r => if decide (lo ≤ t) && decide (t < hi) then some (vp_in i (t - lo), np, ls, .inl (m h i.toNatClampNeg) :: r, m) else none
  | _ => none
def sAst (lo hi : Nat) (np : Nat) (ls st : List AV) (m : Mem) : AR := match st with
  | .inl x :: .inl i :: .inr (.inr (t, h)) :: r => if decide (lo ≤ t) && decide (t < hi) then some (vp_in i (t - lo) ∧ (lo = 4000 → x = 0 ∨ x = 1), np, ls, r, mUp m h i.toNatClampNeg x) else none
  | _ => none
def sAal (np : Nat) (ls st : List AV) (m : Mem) : AR := match st with
  | .inl i :: .inr (.inr (t, h)) :: r => if decide (20 ≤ t) && decide (t < 25) then (match rtb t with
      | (a, b, c, e) => some (vp_in i a, np, ls, .inr (.inr (e, h + b + c * i.toNatClampNeg)) :: r, m)) else none
  | _ => none
def astep (own : Nat) (q : Instr × Nat × Nat × Int32) (ls st : List AV) (m : Mem) : AR := match q with
  | (i, np, tg, lit) => match i with
  | .iconst _ => some (True, np, ls, .inl lit :: st, m)
  | .bipush _ => some (True, np, ls, .inl lit :: st, m)
  | .sipush _ => some (True, np, ls, .inl lit :: st, m)
  | .ldc _ => if tg == 999 then some (True, np, ls, .inl lit :: st, m) else none
  | .ldc_w _ => if tg == 999 then some (True, np, ls, .inl lit :: st, m) else none
  | .lconst n => some (True, np, ls, .inr (.inl (Int64.ofNat n.val)) :: st, m)
  | .iload k => sLd k 0 np ls st m
  | .iload_n k => sLd k.val 0 np ls st m
  | .lload k => sLd k 1 np ls st m
  | .lload_n k => sLd k.val 1 np ls st m
  | .aload k => sLd k 2 np ls st m
  | .aload_n k => sLd k.val 2 np ls st m
  | .istore k => sSt k 0 np ls st m
  | .istore_n k => sSt k.val 0 np ls st m
  | .lstore k => sSt k 1 np ls st m
  | .lstore_n k => sSt k.val 1 np ls st m
  | .astore k => sSt k 2 np ls st m
  | .astore_n k => sSt k.val 2 np ls st m
  | .iinc k _ => sInc k lit np ls st m
  | .iadd => sBin (fun x y => x + y) np ls st m
  | .isub => sBin (fun x y => x - y) np ls st m
  | .imul => sBin (fun x y => x * y) np ls st m
  | .iand => sBin (fun x y => x &&& y) np ls st m
  | .ior => sBin (fun x y => x ||| y) np ls st m
  | .ishl => sBin (fun x y => x <<< (y &&& 31)) np ls st m
  | .ishr => sBin (fun x y => x >>> (y &&& 31)) np ls st m
  | .iushr => sBin (fun x y => (x.toUInt32 >>> (y.toUInt32 &&& Int32.toUInt32 31)).toInt32) np ls st m
  | .idiv => sDiv (fun x y => x / y) np ls st m
  | .irem => sDiv (fun x y => x - x / y * y) np ls st m
  | .ineg => sUn (fun x => -x) np ls st m
  | .i2b => sUn (fun x => x.toInt8.toInt32) np ls st m
  | .i2s => sUn (fun x => x.toInt16.toInt32) np ls st m
  | .i2c => sUn (fun x => (x.toUInt32 % 65536).toInt32) np ls st m
  | .i2l => match st with
    | .inl x :: r => some (True, np, ls, .inr (.inl x.toInt64) :: r, m)
    | _ => none
  | .l2i => match st with
    | .inr (.inl x) :: r => some (True, np, ls, .inl x.toInt32 :: r, m)
    | _ => none
  | .ladd => sBinJ (fun x y => x + y) np ls st m
  | .lmul => sBinJ (fun x y => x * y) np ls st m
  | .ldiv => sDivJ (fun x y => x / y) np ls st m
  | .lrem => sDivJ (fun x y => x - x / y * y) np ls st m
  | .dup => match st with
    | .inl x :: r => some (True, np, ls, .inl x :: .inl x :: r, m)
    | .inr (.inr x) :: r => some (True, np, ls, .inr (.inr x) :: .inr (.inr x) :: r, m)
    | _ => none
  | .pop => match st with
    | .inl _ :: r => some (True, np, ls, r, m)
    | .inr (.inr _) :: r => some (True, np, ls, r, m)
    | _ => none
  | .goto _ => some (True, tg, ls, st, m)
  | .lcmp => match st with
    | .inr (.inl y) :: .inr (.inl x) :: r => some (True, np, ls, .inl (lg_cmp x y) :: r, m)
    | _ => none
  | .ldc2_w j => match LTS.find? (fun e => e.1 == own && e.2.1 == j) with
    | some e => some (True, np, ls, .inr (.inl e.2.2.1) :: st, m)
    | none => none
  | .getfield j => sGet own j np ls st m
  | .putfield j => sPut own j np ls st m
  | .iaload => sAld 1000 4000 np ls st m
  | .baload => sAld 4000 5000 np ls st m
  | .caload => sAld 5000 6000 np ls st m
  | .iastore => sAst 1000 4000 np ls st m
  | .bastore => sAst 4000 5000 np ls st m
  | .aaload => sAal np ls st m
  | _ => none
end
section
-- ===== what the tables and the layout say =====
def fokS (T : u_T) (k : Nat) (q : Nat × Nat) : Bool := match q with
  | (0, 0) => !(T k).2.2.2 && decide (parseFieldDescriptor (T k).2.2.1 = some .int)
  | (0, _) => !(T k).2.2.2 && decide (parseFieldDescriptor (T k).2.2.1 = some .boolean)
  | (t + 1, o) => if o == 9999 then !(T k).2.2.2 && decide (parseFieldDescriptor (T k).2.2.1 = some (.object (Rn t))) else true
def fok (own : Nat) (e : Nat × Nat × Nat × Nat) : Bool := match vwCl[e.2.1 - 1]? with
  | none => false
  | some q => decide (lw_tbl[e.2.2.2]? = some (.fieldLink (Rn own) e.1 (q.2.1 e.2.2.1).1 (q.2.1 e.2.2.1).2.1 (q.2.1 e.2.2.1).2.2.1)) && (decide (e.2.2.1 < q.2.2) && (decide ((shp e.2.1).length = q.2.2) && (decide (0 < e.2.1) && (decide (e.2.1 < 20) && fokS q.2.1 e.2.2.1 ((shp e.2.1).getD e.2.2.1 (0, 0))))))
theorem FTS_ok : (List.range 13).all (fun own => (FTS.getD own []).all (fok own)) = true := by decide +kernel
theorem lookup_in {pr : List (Nat × Nat × Nat × Nat)} {i : Nat} {q : Nat × Nat × Nat} (h : pr.lookup i = some q) : (i, q) ∈ pr := by
  induction pr with
  | nil => simp at h
  | cons a r ih =>
    obtain ⟨a1, a2⟩ := a
    rw [List.lookup_cons] at h
    by_cases e : (i == a1) = true
    · rw [e] at h
      cases h
      have e2 : i = a1 := by simpa using e
      subst e2
      exact List.mem_cons_self
    · have e2 : (i == a1) = false := by simpa using e
      rw [e2] at h
      exact List.mem_cons_of_mem _ (ih h)
theorem ft_ok {own idx t k pos : Nat} (h : ftO own idx = some (t, k, pos)) : ∃ (C : String) (T : u_T) (N : Nat), vwCl[t - 1]? = some (C, T, N) ∧ Cond.fieldLink (Rn own) idx (T k).1 (T k).2.1 (T k).2.2.1 ∈ GT ∧ k < N ∧ (shp t).length = N ∧ 0 < t ∧ t < 20 ∧ fokS T k ((shp t).getD k (0, 0)) = true := by
  unfold ftO at h
  have hown : own < 13 := by
    rcases Nat.lt_or_ge own 13 with q | q
    · exact q
    · have hl : FTS.length = 13 := by decide +kernel
      rw [List.getD_eq_getElem?_getD, List.getElem?_eq_none (by omega)] at h
      simp at h
  have h1 := List.all_eq_true.mp FTS_ok own (List.mem_range.mpr hown)
  have h2 := List.all_eq_true.mp h1 _ (lookup_in h)
  unfold fok at h2
  dsimp only at h2
  cases hc : vwCl[t - 1]? with
  | none => rw [hc] at h2; cases h2
  | some q =>
    obtain ⟨C, T, N⟩ := q
    rw [hc] at h2
    simp only [Bool.and_eq_true, decide_eq_true_eq] at h2
    obtain ⟨g1, g2, g3, g4, g5, g6⟩ := h2
    exact ⟨C, T, N, rfl, GT_in pos g1 rfl, g2, g3, g4, g5, g6⟩
theorem cls_in {ci : Nat} {C : String} {T : u_T} {N : Nat} (h : vwCl[ci]? = some (C, T, N)) : ∀ w ∈ u_ws C T N, w ∈ GT := by
  match ci, h with
  | 0, h => cases h; exact inG0
  | 1, h => cases h; exact inG1
  | 2, h => cases h; exact inG2
  | 3, h => cases h; exact inG3
  | 4, h => cases h; exact inG4
  | 5, h => cases h; exact inG5
  | 6, h => cases h; exact inG6
  | 7, h => cases h; exact inG7
  | 8, h => cases h; exact inG8
  | 9, h => cases h; exact inG9
  | 10, h => cases h; exact inG10
  | 11, h => cases h; exact inG11
  | k + 12, h => simp [vwCl] at h
theorem cls_ty {ci : Nat} {C : String} {T : u_T} {N : Nat} (h : vwCl[ci]? = some (C, T, N)) : ∃ ty0 : Nat → FieldType, (∀ k, k < N → parseFieldDescriptor (T k).2.2.1 = some (ty0 k)) ∧ (∀ a, a < N → ∀ b, b < N → a ≠ b → (T a).2.1 ≠ (T b).2.1) := by
  match ci, h with
  | 0, h => cases h; exact ⟨_, tyX0_ok, nmX0⟩
  | 1, h => cases h; exact ⟨_, tyX1_ok, nmX1⟩
  | 2, h => cases h; exact ⟨_, tyX2_ok, nmX2⟩
  | 3, h => cases h; exact ⟨_, tyX3_ok, nmX3⟩
  | 4, h => cases h; exact ⟨_, tyX4_ok, nmX4⟩
  | 5, h => cases h; exact ⟨_, tyX5_ok, nmX5⟩
  | 6, h => cases h; exact ⟨_, tyX6_ok, nmX6⟩
  | 7, h => cases h; exact ⟨_, tyX7_ok, nmX7⟩
  | 8, h => cases h; exact ⟨_, tyX8_ok, nmX8⟩
  | 9, h => cases h; exact ⟨_, tyX9_ok, nmX9⟩
  | 10, h => cases h; exact ⟨_, tyX10_ok, nmX10⟩
  | 11, h => cases h; exact ⟨_, tyX11_ok, nmX11⟩
  | k + 12, h => simp [vwCl] at h
theorem CTS_ok : CTS.all (fun q => decide (lw_tbl[q.2.2.2]? = some (.constant (Rn q.1) q.2.1 q.2.2.1))) = true := by decide +kernel
theorem LTS_ok : LTS.all (fun q => decide (lw_tbl[q.2.2.2]? = some (.constantLong (Rn q.1) q.2.1 q.2.2.1))) = true := by decide +kernel
theorem ct_ok {own x : Nat} {lit : Int32} (h : CTS.any (fun q => q.1 == own && (q.2.1 == x && q.2.2.1 == lit)) = true) : Cond.constant (Rn own) x lit ∈ GT := by
  obtain ⟨q, hq, h1⟩ := List.any_eq_true.mp h
  simp only [Bool.and_eq_true, beq_iff_eq] at h1
  obtain ⟨rfl, rfl, rfl⟩ := h1
  have h2 := List.all_eq_true.mp CTS_ok q hq
  simp only [decide_eq_true_eq] at h2
  exact GT_in _ h2 rfl
theorem lt_ok {own x : Nat} {e : Nat × Nat × Int64 × Nat} (h : LTS.find? (fun e => e.1 == own && e.2.1 == x) = some e) : Cond.constantLong (Rn own) x e.2.2.1 ∈ GT := by
  have h0 := List.find?_some h
  have h1 := List.mem_of_find?_eq_some h
  simp only [Bool.and_eq_true, beq_iff_eq] at h0
  obtain ⟨rfl, rfl⟩ := h0
  have h2 := List.all_eq_true.mp LTS_ok e h1
  simp only [decide_eq_true_eq] at h2
  exact GT_in _ h2 rfl
-- the layout is closed
def cloB (N : Nat) : Bool := (List.range N).all (fun h => (if layT h < 20 then (shp (layT h)).all (fun q => q.1 == 0 || (q.2 == 9999 || (decide (h + q.2 < N) && layT (h + q.2) == q.1))) else true) &&
  (if layT h < 25 && 20 ≤ layT h then (List.range (rlen (layT h))).all (fun i => decide (h + roff (layT h) + rstr (layT h) * i < N) && layT (h + roff (layT h) + rstr (layT h) * i) == rty (layT h)) else true) && !isX (layT h))
theorem clo1 : cloB NC = true := by decide +kernel
theorem clo2 : cloB NTT = true := by decide +kernel
theorem clo {N : Nat} (h : N = NC ∨ N = NTT) : cloB N = true := by
  rcases h with rfl | rfl
  · exact clo1
  · exact clo2
theorem layT_lt {h : Nat} (g : ¬ layT h = 0) : h < NTT := by
  rcases Nat.lt_or_ge h NTT with q | q
  · exact q
  · exfalso
    apply g
    unfold layT
    rw [List.getD_eq_getElem?_getD, List.getElem?_eq_none]
    · rfl
    · have : LAY.length = NTT := by decide +kernel
      omega
theorem layT_C : (List.range NTT).all (fun h => !(layT h == 9 || layT h == 10) || decide (h < NC)) = true := by decide +kernel
theorem shp_V : SHP.all (fun s => s.all (fun q => !(q.2 == 9999) || (q.1 == 0 || (q.1 == 9 || q.1 == 10)))) = true := by decide +kernel
theorem clo_X {N h : Nat} (hN : N = NC ∨ N = NTT) (hh : h < N) : isX (layT h) = false := by
  have h1 := List.all_eq_true.mp (clo hN) h (List.mem_range.mpr hh)
  simp only [Bool.and_eq_true, Bool.not_eq_true'] at h1
  exact h1.2
theorem clo_f {N h k t2 o : Nat} (hN : N = NC ∨ N = NTT) (hh : h < N) (ht : layT h < 20) (hk : (shp (layT h)).getD k (0, 0) = (t2 + 1, o)) (ho : ¬ o = 9999) : h + o < N ∧ layT (h + o) = t2 + 1 := by
  have h1 := List.all_eq_true.mp (clo hN) h (List.mem_range.mpr hh)
  simp only [Bool.and_eq_true] at h1
  have h2 := h1.1.1
  rw [if_pos ht] at h2
  have hm : (t2 + 1, o) ∈ shp (layT h) := by
    rw [List.getD_eq_getElem?_getD] at hk
    cases hl : (shp (layT h))[k]? with
    | none => rw [hl] at hk; cases hk
    | some q => rw [hl] at hk; have hk : q = (t2 + 1, o) := hk; subst hk; exact List.mem_of_getElem? hl
  have h3 := List.all_eq_true.mp h2 _ hm
  simp only [Bool.or_eq_true, Bool.and_eq_true, beq_iff_eq, decide_eq_true_eq] at h3
  rcases h3 with h3 | h3 | h3
  · exact absurd h3 (Nat.succ_ne_zero _)
  · exact absurd h3 ho
  · exact h3
theorem clo_a {N h i : Nat} (hN : N = NC ∨ N = NTT) (hh : h < N) (ht : layT h < 25) (ht2 : 20 ≤ layT h) (hi : i < rlen (layT h)) : h + roff (layT h) + rstr (layT h) * i < N ∧ layT (h + roff (layT h) + rstr (layT h) * i) = rty (layT h) := by
  have h1 := List.all_eq_true.mp (clo hN) h (List.mem_range.mpr hh)
  simp only [Bool.and_eq_true] at h1
  have h2 := h1.1.2
  rw [if_pos (by simp [ht, ht2])] at h2
  have h3 := List.all_eq_true.mp h2 _ (List.mem_range.mpr hi)
  simp only [Bool.and_eq_true, beq_iff_eq, decide_eq_true_eq] at h3
  exact h3
theorem clo_v {N t k t2 o h : Nat} (hN : N = NC ∨ N = NTT) (hk : (shp t).getD k (0, 0) = (t2 + 1, o)) (ho : o = 9999) (hl : layT h = t2 + 1) : h < N ∧ isX (t2 + 1) = false := by
  have hm : (t2 + 1, o) ∈ shp t := by
    rw [List.getD_eq_getElem?_getD] at hk
    cases hl : (shp t)[k]? with
    | none => rw [hl] at hk; cases hk
    | some q => rw [hl] at hk; have hk : q = (t2 + 1, o) := hk; subst hk; exact List.mem_of_getElem? hl
  have hs : shp t ∈ SHP := by
    unfold shp at hm ⊢
    rw [List.getD_eq_getElem?_getD] at hm ⊢
    cases hl : SHP[t]? with
    | none => rw [hl] at hm; simp at hm
    | some q => exact List.mem_of_getElem? hl
  have h1 := List.all_eq_true.mp (List.all_eq_true.mp shp_V _ hs) _ hm
  simp only [Bool.or_eq_true, Bool.not_eq_true', beq_iff_eq] at h1
  have h9 : t2 + 1 = 9 ∨ t2 + 1 = 10 := by
    rcases h1 with h1 | h1 | h1
    · subst ho; cases h1
    · exact absurd h1 (Nat.succ_ne_zero _)
    · exact h1
  have hlt : h < NTT := layT_lt (by rw [hl]; exact Nat.succ_ne_zero _)
  have h2 := List.all_eq_true.mp layT_C h (List.mem_range.mpr hlt)
  simp only [Bool.or_eq_true, Bool.not_eq_true', decide_eq_true_eq] at h2
  have h3 : h < NC := by
    rcases h2 with h2 | h2
    · rw [hl] at h2
      rcases h9 with q | q <;> rw [q] at h2 <;> cases h2
    · exact h2
  refine ⟨?_, ?_⟩
  · rcases hN with rfl | rfl
    · exact h3
    · exact hlt
  · rcases h9 with q | q <;> rw [q] <;> rfl
-- the cells
theorem fs_get {X : XT} {m : Mem} {h t k : Nat} (hk : k < (shp t).length) : (fsOf X m h t)[k]? = some (slotV X m h k ((shp t).getD k (0, 0))) := by
  simp [fsOf, List.getElem?_range hk]
theorem fs_len {X : XT} {m : Mem} {h t : Nat} : (fsOf X m h t).length = (shp t).length := by simp [fsOf]
theorem fs_up {X : XT} {m : Mem} {h t k : Nat} {x : Int32} : fsOf X (mUp m h k x) h t = (fsOf X m h t).set k (slotV X (mUp m h k x) h k ((shp t).getD k (0, 0))) := by
  apply List.ext_getElem?
  intro j
  by_cases hj : j < (shp t).length
  · rw [fs_get hj, List.getElem?_set]
    by_cases e : k = j
    · subst e
      rw [if_pos rfl, if_pos (by rw [fs_len]; exact hj)]
    · rw [if_neg e, fs_get hj]
      have e2 : mUp m h k x h j = m h j := mUp_n (Or.inr (fun q => e q.symm))
      unfold slotV
      rw [e2]
  · rw [List.getElem?_eq_none (by rw [fs_len]; omega), List.getElem?_eq_none (by rw [List.length_set, fs_len]; omega)]
theorem cel_o {X : XT} {m : Mem} {h t : Nat} (hl : layT h = t) (ht : t < 20) : celE X m h = .inr (t - 1, fsOf X m h t) := by
  subst hl
  unfold celE
  rw [if_pos ht]
theorem cel_r {X : XT} {m : Mem} {h t : Nat} (hl : layT h = t) (h1 : 20 ≤ t) (h2 : t < 25) : celE X m h = .inl (xc X t, rlen t, .inr (.inr (.inr (.inr (fun i => some (xb X + (h + roff t + rstr t * i))))))) := by
  subst hl
  unfold celE
  rw [if_neg (by omega), if_pos (by omega)]
theorem cel_i {X : XT} {m : Mem} {h t : Nat} (hl : layT h = t) (h1 : 1000 ≤ t) (h2 : t < 4000) : celE X m h = .inl (xc X 0, t - 1000, .inl (m h)) := by
  subst hl
  unfold celE
  rw [if_neg (by omega), if_neg (by omega), if_pos h2]
theorem cel_z {X : XT} {m : Mem} {h t : Nat} (hl : layT h = t) (h1 : 4000 ≤ t) (h2 : t < 5000) : celE X m h = .inl (xc X 1, t - 4000, .inl (m h)) := by
  subst hl
  unfold celE
  rw [if_neg (by omega), if_neg (by omega), if_neg (by omega), if_pos h2]
theorem cel_c {X : XT} {m : Mem} {h t : Nat} (hl : layT h = t) (h1 : 5000 ≤ t) : celE X m h = .inl (xc X 2, t - 5000, .inl (m h)) := by
  subst hl
  unfold celE
  rw [if_neg (by omega), if_neg (by omega), if_neg (by omega), if_neg (by omega)]
end
section
-- ===== a step of the abstract walk is a step of the machine =====
abbrev WU (i : Instr) (n : Nat) (st st' : List Value) : Prop := ∀ (p : Program) (l : Launch) (e : Env) (R : Room) (s : State) (m : MethodId) (args : Array Value) (below : List Frame) (meth : Method) (c : Code) (H : Heap) (locs : List Loc) (cells slots : Nat) (Q : State → Prop) (cc : ByteArray) (pc : Nat) (la : Array Slot),
  p.tables.exec = Jvm.exec → c.code = cc → decode cc pc = .ok (i, n) → W p l e R s m args below meth c H locs cells slots Q (F0 m (pc + n) la st') → W p l e R s m args below meth c H locs cells slots Q (F0 m pc la st)
section
variable {G : GG} {pc np tg : Nat} {lit : Int32} {i : Instr} {ls st st' : List AV} {m : Mem}
theorem aw_pure (hf : G.2.2.2.2.2.1.2.2.2.2.2.lookup pc = some (i, np, tg, lit)) (hi : isSw i = false) (ho : okl G.2.1 st → okl G.2.1 ls → okl G.2.1 st') (hw : WU i (ilen i) (st.map (cv G.2.1)) (st'.map (cv G.2.1))) (k : AW G np ls st' m) : AW G pc ls st m := by
  intro hl hol hos p e s mid args below meth c C H locs la hPw hS hL
  obtain ⟨hx, hb, -, -, -, -, -, -, -, -, -, -, -, hok⟩ := id C
  obtain ⟨hd, hn⟩ := fetch_1 hok hf hi
  subst hn
  exact hw _ _ _ _ _ _ _ _ _ _ _ _ _ _ _ _ _ _ hx hb hd (k hl hol (ho hos hol) p e s mid args below meth c C H locs la hPw hS hL)
theorem okl_cons {X : XT} {v : AV} {l : List AV} : okl X (v :: l) ↔ okv X v ∧ okl X l := List.forall_mem_cons
theorem okl_nil {X : XT} : okl X [] := fun _ h => absurd h List.not_mem_nil
theorem okl_set {X : XT} {l : List AV} {v : AV} {k : Nat} (h : okl X l) (hv : okv X v) : okl X (l.set k v) := fun w hw => by
  rcases List.mem_or_eq_of_mem_set hw with q | q
  · exact h w q
  · rw [q]; exact hv
theorem okv_U {X : XT} : okv X vU := Or.inl rfl
theorem okl_getD {X : XT} {l : List AV} {k : Nat} {v : AV} (h : okl X l) (hk : l.getD k vU = v) : okv X v := by
  rw [List.getD_eq_getElem?_getD] at hk
  cases hl : l[k]? with
  | none => rw [hl] at hk; rw [← hk]; exact okv_U
  | some w => rw [hl] at hk; have hk : w = v := hk; subst hk; exact h w (List.mem_of_getElem? hl)
theorem okr_cell {X : XT} {t h : Nat} (ho : okr X t h) (h0 : ¬ t = 0) (hx : isX t = false) : h < xN X ∧ layT h = t := by
  rcases ho with q | q | q
  · exact absurd q h0
  · rw [hx] at q; cases q.1
  · exact q.2
theorem aof_in {X : XT} {t h : Nat} (hx : isX t = false) : aof X t h = xb X + h := by
  unfold aof
  rw [hx]
  rfl
theorem isX_lt {t : Nat} (h : t < 50) : isX t = false := by
  unfold isX
  simp only [Bool.or_eq_false_iff, beq_eq_false_iff_ne]
  omega
theorem isX_gt {t : Nat} (h : 53 ≤ t) : isX t = false := by
  unfold isX
  simp only [Bool.or_eq_false_iff, beq_eq_false_iff_ne]
  omega
variable {P : Prop} {np' : Nat} {ls' : List AV} {m' : Mem}
theorem sBin_inv {f : Int32 → Int32 → Int32} (h : sBin f np ls st m = some (P, np', ls', st', m')) : ∃ x y r, st = vI y :: vI x :: r ∧ np' = np ∧ ls' = ls ∧ st' = vI (f x y) :: r ∧ m' = m := by
  unfold sBin at h
  split at h
  · cases h
    exact ⟨_, _, _, rfl, rfl, rfl, rfl, rfl⟩
  · cases h
theorem sDiv_inv {f : Int32 → Int32 → Int32} (h : sDiv f np ls st m = some (P, np', ls', st', m')) (hP : P) : ∃ x y r, st = vI y :: vI x :: r ∧ np' = np ∧ ls' = ls ∧ st' = vI (f x y) :: r ∧ m' = m ∧ ¬ y = 0 := by
  unfold sDiv at h
  split at h
  · cases h
    exact ⟨_, _, _, rfl, rfl, rfl, rfl, rfl, hP⟩
  · cases h
theorem sUn_inv {f : Int32 → Int32} (h : sUn f np ls st m = some (P, np', ls', st', m')) : ∃ x r, st = vI x :: r ∧ np' = np ∧ ls' = ls ∧ st' = vI (f x) :: r ∧ m' = m := by
  unfold sUn at h
  split at h
  · cases h
    exact ⟨_, _, rfl, rfl, rfl, rfl, rfl⟩
  · cases h
theorem sBinJ_inv {f : Int64 → Int64 → Int64} (h : sBinJ f np ls st m = some (P, np', ls', st', m')) : ∃ x y r, st = vJ y :: vJ x :: r ∧ np' = np ∧ ls' = ls ∧ st' = vJ (f x y) :: r ∧ m' = m := by
  unfold sBinJ at h
  split at h
  · cases h
    exact ⟨_, _, _, rfl, rfl, rfl, rfl, rfl⟩
  · cases h
theorem sDivJ_inv {f : Int64 → Int64 → Int64} (h : sDivJ f np ls st m = some (P, np', ls', st', m')) (hP : P) : ∃ x y r, st = vJ y :: vJ x :: r ∧ np' = np ∧ ls' = ls ∧ st' = vJ (f x y) :: r ∧ m' = m ∧ ¬ y = 0 := by
  unfold sDivJ at h
  split at h
  · cases h
    exact ⟨_, _, _, rfl, rfl, rfl, rfl, rfl, hP⟩
  · cases h
-- an operation on the stack's ints
theorem aw_bin {f : Int32 → Int32 → Int32} (hf : G.2.2.2.2.2.1.2.2.2.2.2.lookup pc = some (i, np, tg, lit)) (hi : isSw i = false) (hw : ∀ x y rest, WU i (ilen i) (.int y :: .int x :: rest) (.int (f x y) :: rest)) (h : sBin f np ls st m = some (P, np', ls', st', m')) (k : AW G np' ls' st' m') : AW G pc ls st m := by
  obtain ⟨x, y, r, rfl, rfl, rfl, rfl, rfl⟩ := sBin_inv h
  exact aw_pure (st' := vI (f x y) :: r) hf hi (fun q _ => okl_cons.mpr ⟨trivial, (okl_cons.mp (okl_cons.mp q).2).2⟩) (hw x y _) k
theorem aw_div {f : Int32 → Int32 → Int32} (hf : G.2.2.2.2.2.1.2.2.2.2.2.lookup pc = some (i, np, tg, lit)) (hi : isSw i = false) (hw : ∀ x y rest, ¬ y = 0 → WU i (ilen i) (.int y :: .int x :: rest) (.int (f x y) :: rest)) (h : sDiv f np ls st m = some (P, np', ls', st', m')) (hP : P) (k : AW G np' ls' st' m') : AW G pc ls st m := by
  obtain ⟨x, y, r, rfl, rfl, rfl, rfl, rfl, hy⟩ := sDiv_inv h hP
  exact aw_pure (st' := vI (f x y) :: r) hf hi (fun q _ => okl_cons.mpr ⟨trivial, (okl_cons.mp (okl_cons.mp q).2).2⟩) (hw x y _ hy) k
theorem aw_un {f : Int32 → Int32} (hf : G.2.2.2.2.2.1.2.2.2.2.2.lookup pc = some (i, np, tg, lit)) (hi : isSw i = false) (hw : ∀ x rest, WU i (ilen i) (.int x :: rest) (.int (f x) :: rest)) (h : sUn f np ls st m = some (P, np', ls', st', m')) (k : AW G np' ls' st' m') : AW G pc ls st m := by
  obtain ⟨x, r, rfl, rfl, rfl, rfl, rfl⟩ := sUn_inv h
  exact aw_pure (st' := vI (f x) :: r) hf hi (fun q _ => okl_cons.mpr ⟨trivial, (okl_cons.mp q).2⟩) (hw x _) k
theorem aw_binJ {f : Int64 → Int64 → Int64} (hf : G.2.2.2.2.2.1.2.2.2.2.2.lookup pc = some (i, np, tg, lit)) (hi : isSw i = false) (hw : ∀ x y rest, WU i (ilen i) (.long y :: .long x :: rest) (.long (f x y) :: rest)) (h : sBinJ f np ls st m = some (P, np', ls', st', m')) (k : AW G np' ls' st' m') : AW G pc ls st m := by
  obtain ⟨x, y, r, rfl, rfl, rfl, rfl, rfl⟩ := sBinJ_inv h
  exact aw_pure (st' := vJ (f x y) :: r) hf hi (fun q _ => okl_cons.mpr ⟨trivial, (okl_cons.mp (okl_cons.mp q).2).2⟩) (hw x y _) k
theorem aw_divJ {f : Int64 → Int64 → Int64} (hf : G.2.2.2.2.2.1.2.2.2.2.2.lookup pc = some (i, np, tg, lit)) (hi : isSw i = false) (hw : ∀ x y rest, ¬ y = 0 → WU i (ilen i) (.long y :: .long x :: rest) (.long (f x y) :: rest)) (h : sDivJ f np ls st m = some (P, np', ls', st', m')) (hP : P) (k : AW G np' ls' st' m') : AW G pc ls st m := by
  obtain ⟨x, y, r, rfl, rfl, rfl, rfl, rfl, hy⟩ := sDivJ_inv h hP
  exact aw_pure (st' := vJ (f x y) :: r) hf hi (fun q _ => okl_cons.mpr ⟨trivial, (okl_cons.mp (okl_cons.mp q).2).2⟩) (hw x y _ hy) k
-- a local is read
theorem sLd_inv {j c : Nat} (h : sLd j c np ls st m = some (P, np', ls', st', m')) : ∃ v, ls.getD j vU = v ∧ unk v = false ∧ np' = np ∧ ls' = ls ∧ st' = v :: st ∧ m' = m ∧ ((c = 0 ∧ ∃ x, v = vI x) ∨ (c = 1 ∧ ∃ x, v = vJ x) ∨ (c = 2 ∧ ∃ q, v = .inr (.inr q))) := by
  unfold sLd at h
  split at h
  · rename_i x hx
    split at h
    · rename_i hc
      cases h
      exact ⟨_, hx, rfl, rfl, rfl, rfl, rfl, Or.inl ⟨by simpa using hc, _, rfl⟩⟩
    · cases h
  · rename_i x hx
    split at h
    · rename_i hc
      cases h
      exact ⟨_, hx, rfl, rfl, rfl, rfl, rfl, Or.inr (Or.inl ⟨by simpa using hc, _, rfl⟩)⟩
    · cases h
  · rename_i x hx
    split at h
    · rename_i hc
      cases h
      simp only [Bool.and_eq_true, Bool.not_eq_true'] at hc
      exact ⟨_, hx, hc.2, rfl, rfl, rfl, rfl, Or.inr (Or.inr ⟨by simpa using hc.1, _, rfl⟩)⟩
    · cases h
theorem aw_ld {j c : Nat} (hf : G.2.2.2.2.2.1.2.2.2.2.2.lookup pc = some (i, np, tg, lit)) (hi : isSw i = false)
    (hw : ∀ (v : AV), ((c = 0 ∧ ∃ x, v = vI x) ∨ (c = 1 ∧ ∃ x, v = vJ x) ∨ (c = 2 ∧ ∃ q, v = .inr (.inr q))) → ∀ (p : Program) (l : Launch) (e : Env) (R : Room) (s : State) (mi : MethodId) (args : Array Value) (below : List Frame) (meth : Method) (co : Code) (H : Heap) (locs : List Loc) (cells slots : Nat) (Q : State → Prop) (cc : ByteArray) (pc : Nat) (la : Array Slot) (rest : List Value), p.tables.exec = Jvm.exec → co.code = cc → decode cc pc = .ok (i, ilen i) → la[j]? = some (.val (cv G.2.1 v)) → W p l e R s mi args below meth co H locs cells slots Q (F0 mi (pc + ilen i) la (cv G.2.1 v :: rest)) → W p l e R s mi args below meth co H locs cells slots Q (F0 mi pc la rest))
    (h : sLd j c np ls st m = some (P, np', ls', st', m')) (k : AW G np' ls' st' m') : AW G pc ls st m := by
  obtain ⟨v, hv, hu, rfl, rfl, rfl, rfl, hc⟩ := sLd_inv h
  intro hl hol hos p e s mid args below meth c C H locs la hPw hS hL
  obtain ⟨hx, hb, -, -, -, -, -, -, -, -, -, -, -, hok⟩ := id C
  obtain ⟨hd, hn⟩ := fetch_1 hok hf hi
  subst hn
  exact hw v hc _ _ _ _ _ _ _ _ _ _ _ _ _ _ _ _ _ _ _ hx hb hd (lRep_get hL hv hu) (k hl hol (okl_cons.mpr ⟨okl_getD hol hv, hos⟩) p e s mid args below meth c C H locs la hPw hS hL)
-- a local is written
theorem aw_st1 {j : Nat} {v : AV} {r : List AV} (hf : G.2.2.2.2.2.1.2.2.2.2.2.lookup pc = some (i, np, tg, lit)) (hi : isSw i = false) (hj : j < ls.length) (hno : noL ls j = true)
    (hw : ∀ (p : Program) (l : Launch) (e : Env) (R : Room) (s : State) (mi : MethodId) (args : Array Value) (below : List Frame) (meth : Method) (co : Code) (H : Heap) (locs : List Loc) (cells slots : Nat) (Q : State → Prop) (cc : ByteArray) (pc : Nat) (la : Array Slot) (nL : Nat) (rest : List Value) (lv : List (Nat × Value)), p.tables.exec = Jvm.exec → co.code = cc → decode cc pc = .ok (i, ilen i) → lv_has la nL lv → j < nL → (∀ la', lv_has la' nL ((j, cv G.2.1 v) :: lv.filter (fun q => !(q.1 == j) && !(q.1 + 1 == j && q.2.category == 2))) → W p l e R s mi args below meth co H locs cells slots Q (F0 mi (pc + ilen i) la' rest)) → W p l e R s mi args below meth co H locs cells slots Q (F0 mi pc la (cv G.2.1 v :: rest)))
    (k : AW G np (ls.set j v) r m) : AW G pc ls (v :: r) m := by
  intro hl hol hos p e s mid args below meth c C H locs la hPw hS hL
  obtain ⟨hx, hb, -, -, -, -, -, -, -, -, -, -, -, hok⟩ := id C
  obtain ⟨hd, hn⟩ := fetch_1 hok hf hi
  subst hn
  have ho := okl_cons.mp hos
  exact hw _ _ _ _ _ _ _ _ _ _ _ _ _ _ _ _ _ _ _ _ _ hx hb hd (lRep_has hL) hj (fun la' h' => k (by rw [List.length_set]; exact hl) (okl_set hol ho.1) ho.2 p e s mid args below meth c C H locs la' hPw hS (lRep_set hj hno h'))
theorem aw_st2 {j : Nat} {x : Int64} {r : List AV} (hf : G.2.2.2.2.2.1.2.2.2.2.2.lookup pc = some (i, np, tg, lit)) (hi : isSw i = false) (hj : j + 1 < ls.length) (hno : noL ls j = true)
    (hw : ∀ (p : Program) (l : Launch) (e : Env) (R : Room) (s : State) (mi : MethodId) (args : Array Value) (below : List Frame) (meth : Method) (co : Code) (H : Heap) (locs : List Loc) (cells slots : Nat) (Q : State → Prop) (cc : ByteArray) (pc : Nat) (la : Array Slot) (nL : Nat) (rest : List Value) (lv : List (Nat × Value)), p.tables.exec = Jvm.exec → co.code = cc → decode cc pc = .ok (i, ilen i) → lv_has la nL lv → j + 1 < nL → (∀ la', lv_has la' nL ((j, .long x) :: lv.filter (fun q => !(q.1 == j) && (!(q.1 == j + 1) && !(q.1 + 1 == j && q.2.category == 2)))) → W p l e R s mi args below meth co H locs cells slots Q (F0 mi (pc + ilen i) la' rest)) → W p l e R s mi args below meth co H locs cells slots Q (F0 mi pc la (.long x :: rest)))
    (k : AW G np ((ls.set j (vJ x)).set (j + 1) vU) r m) : AW G pc ls (vJ x :: r) m := by
  intro hl hol hos p e s mid args below meth c C H locs la hPw hS hL
  obtain ⟨hx, hb, -, -, -, -, -, -, -, -, -, -, -, hok⟩ := id C
  obtain ⟨hd, hn⟩ := fetch_1 hok hf hi
  subst hn
  have ho := okl_cons.mp hos
  exact hw _ _ _ _ _ _ _ _ _ _ _ _ _ _ _ _ _ _ _ _ _ hx hb hd (lRep_has hL) hj (fun la' h' => k (by rw [List.length_set, List.length_set]; exact hl) (okl_set (okl_set hol trivial) okv_U) ho.2 p e s mid args below meth c C H locs la' hPw hS (lRep_set2 (v := vJ x) hj hno h'))
end
end
section
section
variable {G : GG} {pc np tg : Nat} {lit : Int32} {ls st st' : List AV} {m : Mem} {P : Prop} {np' : Nat} {ls' : List AV} {m' : Mem}
theorem aw_get0 {idx t h k pos : Nat} {v : AV} {r : List AV} (hf : G.2.2.2.2.2.1.2.2.2.2.2.lookup pc = some (.getfield idx, np, tg, lit)) (hft : ftO G.2.2.2.2.2.1.2.2.2.2.1 idx = some (t, k, pos))
    (hv : okr G.2.1 t h → cv G.2.1 v = slotV G.2.1 m h k ((shp t).getD k (0, 0))) (hov : (xN G.2.1 = NC ∨ xN G.2.1 = NTT) → okr G.2.1 t h → okv G.2.1 v) (kk : AW G np ls (v :: r) m) : AW G pc ls (vR t h :: r) m := by
  intro hl hol hos p e s mid args below meth c C H locs la hPw hS hL
  obtain ⟨hx, hb, -, -, hown, hts, -, hK, -, hN, -, -, -, hok⟩ := id C
  obtain ⟨hd, hn⟩ := fetch_1 hok hf rfl
  subst hn
  obtain ⟨Cn, T, N, hc, hlk, hkN, hsl, ht0, ht20, hfk⟩ := ft_ok hft
  have ho := okl_cons.mp hos
  have hxt : isX t = false := isX_lt (by omega)
  obtain ⟨hh, hlay⟩ := okr_cell ho.1 (by omega) hxt
  show W _ _ _ _ _ _ _ _ _ _ _ _ _ _ _ (F0 mid pc la (.ref (aof G.2.1 t h) :: r.map (cv G.2.1)))
  rw [aof_in hxt]
  have he : (wsOf G.2.1 m)[h]? = some (xb G.2.1 + h, .inr (t - 1, fsOf G.2.1 m h t)) := by rw [ws_get _ _ hh, cel_o hlay ht20]
  refine va_get hx hb hts (cls_in hc) hown hK hPw h he hc k hkN (hts _ hlk) (fun _ h9 => h9) (fs_get (by rw [hsl]; exact hkN)) hd ?_
  rw [← hv ho.1]
  exact kk hl hol (okl_cons.mpr ⟨hov hN ho.1, ho.2⟩) p e s mid args below meth c C H locs la hPw hS hL
theorem aw_get {idx : Nat} (hf : G.2.2.2.2.2.1.2.2.2.2.2.lookup pc = some (.getfield idx, np, tg, lit)) (h : sGet G.2.2.2.2.2.1.2.2.2.2.1 idx np ls st m = some (P, np', ls', st', m')) (hP : P) (k : AW G np' ls' st' m') : AW G pc ls st m := by
  unfold sGet at h
  split at h
  · rename_i t h0 r
    split at h
    · rename_i t' kk pos hft
      split at h
      · rename_i htt
        have htt : t = t' := by simpa using htt
        subst htt
        obtain ⟨Cn, T, N, hc, hlk, hkN, hsl, ht0, ht20, hfk⟩ := ft_ok hft
        split at h
        rename_i t2' o hq
        split at h
        · rename_i h00
          have h00 : t2' = 0 := by simpa using h00
          subst h00
          cases h
          exact aw_get0 (v := vI (m h0 kk)) hf hft (fun _ => by rw [hq]; rfl) (fun _ _ => trivial) k
        · rename_i h00
          have h00 : ¬ t2' = 0 := by simpa using h00
          obtain ⟨t2, rfl⟩ : ∃ a, t2' = a + 1 := ⟨t2' - 1, by omega⟩
          split at h
          · rename_i ho
            have ho : o = 9999 := by simpa using ho
            cases h
            refine aw_get0 (v := vR (t2 + 1) (m h0 kk).toNatClampNeg) hf hft (fun _ => ?_) (fun hN _ => ?_) k
            · rw [hq, ho]
              obtain ⟨-, hX2⟩ := clo_v (Or.inl rfl) hq ho hP
              show Value.ref (aof G.2.1 (t2 + 1) _) = _
              rw [aof_in hX2]
              rfl
            · obtain ⟨hlt, hX2⟩ := clo_v hN hq ho hP
              exact Or.inr (Or.inr ⟨hX2, hlt, hP⟩)
          · rename_i ho
            have ho : ¬ o = 9999 := by simpa using ho
            cases h
            have key : (xN G.2.1 = NC ∨ xN G.2.1 = NTT) → okr G.2.1 t h0 → h0 + o < xN G.2.1 ∧ layT (h0 + o) = t2 + 1 ∧ isX (t2 + 1) = false := by
              intro hN hr
              obtain ⟨hh, hlay⟩ := okr_cell hr (by omega) (isX_lt (by omega))
              obtain ⟨g1, g2⟩ := clo_f hN hh (by rw [hlay]; exact ht20) (by rw [hlay]; exact hq) ho
              refine ⟨g1, g2, ?_⟩
              rw [← g2]
              exact clo_X hN g1
            intro hl hol hos p e s mid args below meth c C H locs la hPw hS hL
            have hN : xN G.2.1 = NC ∨ xN G.2.1 = NTT := by
              obtain ⟨-, -, -, -, -, -, -, -, -, hN, -⟩ := C
              exact hN
            obtain ⟨g1, g2, g3⟩ := key hN (okl_cons.mp hos).1
            refine aw_get0 hf hft (v := vR (t2 + 1) (h0 + o)) (fun _ => ?_) (fun _ _ => ?_) k hl hol hos p e s mid args below meth c C H locs la hPw hS hL
            · rw [hq]
              show Value.ref (aof G.2.1 (t2 + 1) _) = _
              rw [aof_in g3]
              unfold slotV
              rw [if_neg (Nat.succ_ne_zero _), if_neg ho]
            · exact Or.inr (Or.inr ⟨g3, g1, g2⟩)
      · cases h
    · cases h
  · cases h
theorem aw_put0 {idx t h k pos : Nat} {v : AV} {x : Int32} {ty : FieldType} {r : List AV} (hf : G.2.2.2.2.2.1.2.2.2.2.2.lookup pc = some (.putfield idx, np, tg, lit)) (hft : ftO G.2.2.2.2.2.1.2.2.2.2.1 idx = some (t, k, pos))
    (hty : ∀ (C : String) (T : u_T) (N : Nat), vwCl[t - 1]? = some (C, T, N) → fokS T k ((shp t).getD k (0, 0)) = true → (T k).2.2.2 = false ∧ parseFieldDescriptor (T k).2.2.1 = some ty) (hn : narrow ty (cv G.2.1 v) = cv G.2.1 v) (hfit : fits ty (cv G.2.1 v) = true)
    (hv : slotV G.2.1 (mUp m h k x) h k ((shp t).getD k (0, 0)) = cv G.2.1 v) (kk : AW G np ls r (mUp m h k x)) : AW G pc ls (v :: vR t h :: r) m := by
  intro hl hol hos p e s mid args below meth c C H locs la hPw hS hL
  obtain ⟨hx, hb, -, -, hown, hts, -, hK, -, hN, -, -, -, hok⟩ := id C
  obtain ⟨hd, hn1⟩ := fetch_1 hok hf rfl
  subst hn1
  obtain ⟨Cn, T, N, hc, hlk, hkN, hsl, ht0, ht20, hfk⟩ := ft_ok hft
  have ho := okl_cons.mp (okl_cons.mp hos).2
  have hxt : isX t = false := isX_lt (by omega)
  obtain ⟨hh, hlay⟩ := okr_cell ho.1 (by omega) hxt
  show W _ _ _ _ _ _ _ _ _ _ _ _ _ _ _ (F0 mid pc la (cv G.2.1 v :: .ref (aof G.2.1 t h) :: r.map (cv G.2.1)))
  rw [aof_in hxt]
  have he : (wsOf G.2.1 m)[h]? = some (xb G.2.1 + h, .inr (t - 1, fsOf G.2.1 m h t)) := by rw [ws_get _ _ hh, cel_o hlay ht20]
  obtain ⟨hfin, hpd⟩ := hty Cn T N hc hfk
  obtain ⟨ty0, hty0, hnm⟩ := cls_ty hc
  have hset : (wsOf G.2.1 m).set h (xb G.2.1 + h, .inr (t - 1, (fsOf G.2.1 m h t).set k (cv G.2.1 v))) = wsOf G.2.1 (mUp m h k x) := by
    have e1 : wsOf G.2.1 (mUp m h k x) = (wsOf G.2.1 m).set h (xb G.2.1 + h, celE G.2.1 (mUp m h k x) h) := ws_row _ _ _ _
    rw [e1, cel_o hlay ht20, fs_up, hv]
  refine va_put hx hb hts (cls_in hc) ty0 hty0 hnm hown hK hPw (ws_D _ _) hS h he hc k hkN (hts _ hlk) (fun _ h9 => h9) hfin hpd hn hfit (by rw [fs_len, hsl]; exact hkN) hd (fun H1 locs1 hP1 hD1 hS1 => ?_)
  rw [hset] at hP1
  exact kk hl hol ho.2 p e s mid args below meth c C H1 locs1 la hP1 hS1 hL
theorem aw_put {idx : Nat} (hf : G.2.2.2.2.2.1.2.2.2.2.2.lookup pc = some (.putfield idx, np, tg, lit)) (h : sPut G.2.2.2.2.2.1.2.2.2.2.1 idx np ls st m = some (P, np', ls', st', m')) (hP : P) (k : AW G np' ls' st' m') : AW G pc ls st m := by
  unfold sPut at h
  split at h
  · rename_i x t h0 r
    split at h
    · rename_i t' kk pos hft
      split at h
      · rename_i htt
        have htt : t = t' := by simpa using htt
        subst htt
        obtain ⟨Cn, T, N, hc, hlk, hkN, hsl, ht0, ht20, hfk⟩ := ft_ok hft
        have hgd : (shp t).getD kk (1, 0) = (shp t).getD kk (0, 0) := by
          rw [List.getD_eq_getElem?_getD, List.getD_eq_getElem?_getD, List.getElem?_eq_getElem (by omega)]
          rfl
        rw [hgd] at h
        split at h
        · rename_i hq
          cases h
          refine aw_put0 (v := vI x) (ty := .int) hf hft (fun C1 T1 N1 hc1 hf1 => ?_) rfl rfl ?_ k
          · rw [hq] at hf1
            simp only [fokS, Bool.and_eq_true, Bool.not_eq_true', decide_eq_true_eq] at hf1
            exact hf1
          · rw [hq]
            show Value.int (mUp m h0 kk x h0 kk) = _
            rw [mUp_s]
            rfl
        · rename_i hq
          cases h
          have hx01 : narrow .boolean (.int x) = .int x ∧ fits .boolean (.int x) = true := by
            rcases hP with rfl | rfl <;> exact ⟨rfl, rfl⟩
          refine aw_put0 (v := vI x) (ty := .boolean) hf hft (fun C1 T1 N1 hc1 hf1 => ?_) hx01.1 hx01.2 ?_ k
          · rw [hq] at hf1
            simp only [fokS, Bool.and_eq_true, Bool.not_eq_true', decide_eq_true_eq] at hf1
            exact hf1
          · rw [hq]
            show Value.int (mUp m h0 kk x h0 kk) = _
            rw [mUp_s]
            rfl
        · cases h
      · cases h
    · cases h
  · rename_i t2 h2 t h0 r
    split at h
    · rename_i t' kk pos hft
      split at h
      · rename_i htt
        simp only [Bool.and_eq_true, beq_iff_eq, Bool.not_eq_true', beq_eq_false_iff_ne] at htt
        obtain ⟨rfl, g1, g2, g3⟩ := htt
        obtain ⟨Cn, T, N, hc, hlk, hkN, hsl, ht0, ht20, hfk⟩ := ft_ok hft
        cases h
        obtain ⟨a, rfl⟩ : ∃ a, t2 = a + 1 := ⟨t2 - 1, by omega⟩
        have hq : (shp t).getD kk (0, 0) = (a + 1, 9999) := Prod.ext g1.symm g2
        intro hl hol hos p e s mid args below meth c C H locs la hPw hS hL
        have hN : xN G.2.1 = NC ∨ xN G.2.1 = NTT := by
          obtain ⟨-, -, -, -, -, -, -, -, -, hN, -⟩ := C
          exact hN
        have hXa : isX (a + 1) = false := by
          have h1 := shp_V
          have hm : (a + 1, 9999) ∈ shp t := by
            rw [List.getD_eq_getElem?_getD, List.getElem?_eq_getElem (by omega)] at hq
            have hq : (shp t)[kk] = (a + 1, 9999) := hq
            rw [← hq]
            exact List.getElem_mem _
          have hs : shp t ∈ SHP := by
            unfold shp at hm ⊢
            rw [List.getD_eq_getElem?_getD] at hm ⊢
            cases hl : SHP[t]? with
            | none => rw [hl] at hm; simp at hm
            | some q => exact List.mem_of_getElem? hl
          have h2 := List.all_eq_true.mp (List.all_eq_true.mp shp_V _ hs) _ hm
          simp only [Bool.or_eq_true, Bool.not_eq_true', beq_iff_eq] at h2
          rcases h2 with h2 | h2 | h2 | h2
          · cases h2
          · exact absurd h2 (Nat.succ_ne_zero _)
          · rw [h2]; rfl
          · rw [h2]; rfl
        obtain ⟨hh2, hlay2⟩ := okr_cell (okl_cons.mp hos).1 (Nat.succ_ne_zero _) hXa
        have hlt : h2 < 2 ^ 31 := by
          have : h2 < NTT := layT_lt (by rw [hlay2]; exact Nat.succ_ne_zero _)
          exact Nat.lt_trans this (by decide)
        refine aw_put0 (v := vR (a + 1) h2) (x := Int32.ofNat h2) (ty := .object (Rn a)) hf hft (fun C1 T1 N1 hc1 hf1 => ?_) rfl rfl ?_ k hl hol hos p e s mid args below meth c C H locs la hPw hS hL
        · rw [hq] at hf1
          simp only [fokS, beq_self_eq_true, if_true, Bool.and_eq_true, Bool.not_eq_true', decide_eq_true_eq] at hf1
          exact hf1
        · rw [hq]
          unfold slotV
          rw [if_neg (Nat.succ_ne_zero _), if_pos rfl, mUp_s, show (Int32.ofNat h2).toNatClampNeg = h2 from nI_clamp hlt]
          show _ = Value.ref (aof G.2.1 (a + 1) h2)
          rw [aof_in hXa]
      · cases h
    · cases h
  · cases h
end
end
section
section
variable {G : GG} {pc np tg : Nat} {lit : Int32} {ls st st' : List AV} {m : Mem} {P : Prop} {np' : Nat} {ls' : List AV} {m' : Mem}
theorem sAld_inv {lo hi : Nat} (h : sAld lo hi np ls st m = some (P, np', ls', st', m')) (hP : P) : ∃ j t h0 r, st = vI j :: vR t h0 :: r ∧ lo ≤ t ∧ t < hi ∧ np' = np ∧ ls' = ls ∧ st' = vI (m h0 j.toNatClampNeg) :: r ∧ m' = m ∧ vp_in j (t - lo) := by
  unfold sAld at h
  split at h
  · split at h
    · rename_i hc
      simp only [Bool.and_eq_true, decide_eq_true_eq] at hc
      cases h
      exact ⟨_, _, _, _, rfl, hc.1, hc.2, rfl, rfl, rfl, rfl, hP⟩
    · cases h
  · cases h
theorem sAst_inv {lo hi : Nat} (h : sAst lo hi np ls st m = some (P, np', ls', st', m')) (hP : P) : ∃ x j t h0 r, st = vI x :: vI j :: vR t h0 :: r ∧ lo ≤ t ∧ t < hi ∧ np' = np ∧ ls' = ls ∧ st' = r ∧ m' = mUp m h0 j.toNatClampNeg x ∧ vp_in j (t - lo) ∧ (lo = 4000 → x = 0 ∨ x = 1) := by
  unfold sAst at h
  split at h
  · split at h
    · rename_i hc
      simp only [Bool.and_eq_true, decide_eq_true_eq] at hc
      cases h
      exact ⟨_, _, _, _, _, rfl, hc.1, hc.2, rfl, rfl, rfl, rfl, hP.1, hP.2⟩
    · cases h
  · cases h
/-- what is needed of a cell on the stack -/
theorem aw_cell {t h : Nat} {X : XT} (ho : okr X t h) (h0 : ¬ t = 0) (hx : isX t = false) : h < xN X ∧ layT h = t ∧ aof X t h = xb X + h := ⟨(okr_cell ho h0 hx).1, (okr_cell ho h0 hx).2, aof_in hx⟩
theorem aw_ald {i : Instr} {lo hi a : Nat} {ty : FieldType} (hf : G.2.2.2.2.2.1.2.2.2.2.2.lookup pc = some (i, np, tg, lit)) (hi' : isSw i = false) (hlo : 1000 ≤ lo)
    (hcel : ∀ (X : XT) (m : Mem) (h t : Nat), layT h = t → lo ≤ t → t < hi → celE X m h = .inl (xc X a, t - lo, .inl (m h))) (ht : ∀ X : XT, (tysOf X)[a]? = some (xc X a, ty))
    (hw : ∀ (p : Program) (l : Launch) (e : Env) (R : Room) (s : State) (mi : MethodId) (args : Array Value) (below : List Frame) (meth : Method) (co : Code) (H : Heap) (locs : List Loc) (cells slots : Nat) (Q : State → Prop) (cc : ByteArray) (pc : Nat) (la : Array Slot) (rest : List Value) (D : va_G) (tys : List (ClassId × FieldType)) (ws : va_W) (q0 t0 ad n : Nat) (cA : ClassId) (f : Nat → Int32) (j : Int32), p.tables.exec = Jvm.exec → co.code = cc → va_K D vwCl tys s → va_P D vwCl ws H → ws[q0]? = some (ad, .inl (cA, n, .inl f)) → tys[t0]? = some (cA, ty) → vp_in j n → decode cc pc = .ok (i, ilen i) → W p l e R s mi args below meth co H locs cells slots Q (F0 mi (pc + ilen i) la (.int (f j.toNatClampNeg) :: rest)) → W p l e R s mi args below meth co H locs cells slots Q (F0 mi pc la (.int j :: .ref ad :: rest)))
    (h : sAld lo hi np ls st m = some (P, np', ls', st', m')) (hP : P) (k : AW G np' ls' st' m') : AW G pc ls st m := by
  obtain ⟨j, t, h0, r, rfl, hl1, hl2, rfl, rfl, rfl, rfl, hin⟩ := sAld_inv h hP
  intro hl hol hos p e s mid args below meth c C H locs la hPw hS hL
  obtain ⟨hx, hb, -, -, hown, hts, -, hK, -, hN, -, -, -, hok⟩ := id C
  obtain ⟨hd, hn1⟩ := fetch_1 hok hf hi'
  subst hn1
  have ho := okl_cons.mp (okl_cons.mp hos).2
  obtain ⟨hh, hlay, hao⟩ := aw_cell ho.1 (by omega) (isX_gt (by omega))
  show W _ _ _ _ _ _ _ _ _ _ _ _ _ _ _ (F0 mid pc la (.int j :: .ref (aof G.2.1 t h0) :: r.map (cv G.2.1)))
  rw [hao]
  have he : (wsOf G.2.1 m')[h0]? = some (xb G.2.1 + h0, .inl (xc G.2.1 a, t - lo, .inl (m' h0))) := by rw [ws_get _ _ hh, hcel _ _ _ _ hlay hl1 hl2]
  exact hw _ _ _ _ _ _ _ _ _ _ _ _ _ _ _ _ _ _ _ _ _ _ _ _ _ _ _ _ _ hx hb hK hPw he (ht _) hin hd (k hl hol (okl_cons.mpr ⟨trivial, ho.2⟩) p e s mid args below meth c C H locs la hPw hS hL)
theorem aw_ast {i : Instr} {lo hi a : Nat} {ty : FieldType} (hf : G.2.2.2.2.2.1.2.2.2.2.2.lookup pc = some (i, np, tg, lit)) (hi' : isSw i = false) (hlo : 1000 ≤ lo)
    (hcel : ∀ (X : XT) (m : Mem) (h t : Nat), layT h = t → lo ≤ t → t < hi → celE X m h = .inl (xc X a, t - lo, .inl (m h))) (ht : ∀ X : XT, (tysOf X)[a]? = some (xc X a, ty))
    (hw : ∀ (p : Program) (l : Launch) (e : Env) (R : Room) (s : State) (mi : MethodId) (args : Array Value) (below : List Frame) (meth : Method) (co : Code) (H H0 : Heap) (locs : List Loc) (cells slots : Nat) (Q : State → Prop) (cc : ByteArray) (pc : Nat) (la : Array Slot) (rest : List Value) (D : va_G) (A : Nat → Prop) (tys : List (ClassId × FieldType)) (ws : va_W) (q0 t0 ad n : Nat) (cA : ClassId) (f : Nat → Int32) (j x : Int32), (lo = 4000 → x = 0 ∨ x = 1) → p.tables.exec = Jvm.exec → co.code = cc → va_K D vwCl tys s → va_P D vwCl ws H → va_D A ws → va_S A H0 H locs → ws[q0]? = some (ad, .inl (cA, n, .inl f)) → tys[t0]? = some (cA, ty) → vp_in j n → decode cc pc = .ok (i, ilen i) →
      (∀ (H1 : Heap) (locs1 : List Loc), va_P D vwCl (ws.set q0 (ad, .inl (cA, n, .inl (upd f j.toNatClampNeg x)))) H1 → va_S A H0 H1 locs1 → W p l e R s mi args below meth co H1 locs1 cells slots Q (F0 mi (pc + ilen i) la rest)) → W p l e R s mi args below meth co H locs cells slots Q (F0 mi pc la (.int x :: .int j :: .ref ad :: rest)))
    (h : sAst lo hi np ls st m = some (P, np', ls', st', m')) (hP : P) (k : AW G np' ls' st' m') : AW G pc ls st m := by
  obtain ⟨x, j, t, h0, r, rfl, hl1, hl2, rfl, rfl, e5, rfl, hin, h01⟩ := sAst_inv h hP
  subst e5
  intro hl hol hos p e s mid args below meth c C H locs la hPw hS hL
  obtain ⟨hx, hb, -, -, hown, hts, -, hK, -, hN, -, -, -, hok⟩ := id C
  obtain ⟨hd, hn1⟩ := fetch_1 hok hf hi'
  subst hn1
  have ho := okl_cons.mp (okl_cons.mp (okl_cons.mp hos).2).2
  obtain ⟨hh, hlay, hao⟩ := aw_cell ho.1 (by omega) (isX_gt (by omega))
  show W _ _ _ _ _ _ _ _ _ _ _ _ _ _ _ (F0 mid pc la (.int x :: .int j :: .ref (aof G.2.1 t h0) :: st'.map (cv G.2.1)))
  rw [hao]
  have he : (wsOf G.2.1 m)[h0]? = some (xb G.2.1 + h0, .inl (xc G.2.1 a, t - lo, .inl (m h0))) := by rw [ws_get _ _ hh, hcel _ _ _ _ hlay hl1 hl2]
  have hset : (wsOf G.2.1 m).set h0 (xb G.2.1 + h0, .inl (xc G.2.1 a, t - lo, .inl (upd (m h0) j.toNatClampNeg x))) = wsOf G.2.1 (mUp m h0 j.toNatClampNeg x) := by
    have e1 : wsOf G.2.1 (mUp m h0 j.toNatClampNeg x) = (wsOf G.2.1 m).set h0 (xb G.2.1 + h0, celE G.2.1 (mUp m h0 j.toNatClampNeg x) h0) := ws_row _ _ _ _
    rw [e1, hcel _ _ _ _ hlay hl1 hl2, show mUp m h0 j.toNatClampNeg x h0 = upd (m h0) j.toNatClampNeg x from mSr_s _ _ _]
  refine hw _ _ _ _ _ _ _ _ _ _ _ _ _ _ _ _ _ _ _ _ _ _ _ _ _ _ _ _ _ _ _ _ h01 hx hb hK hPw (ws_D _ _) hS he (ht _) hin hd (fun H1 locs1 hP1 hS1 => ?_)
  rw [hset] at hP1
  exact k hl hol ho.2 p e s mid args below meth c C H1 locs1 la hP1 hS1 hL
theorem vp_nar_b {x : Int32} (h : x = 0 ∨ x = 1) : vp_nar .boolean x = x := by
  rcases h with rfl | rfl <;> rfl
theorem aw_aal (hf : G.2.2.2.2.2.1.2.2.2.2.2.lookup pc = some (.aaload, np, tg, lit)) (h : sAal np ls st m = some (P, np', ls', st', m')) (hP : P) (k : AW G np' ls' st' m') : AW G pc ls st m := by
  unfold sAal at h
  split at h
  · rename_i j t h0 r
    split at h
    · rename_i hc
      simp only [Bool.and_eq_true, decide_eq_true_eq] at hc
      obtain ⟨hc1, hc2⟩ := hc
      split at h
      rename_i ra rb rc re hq
      have qa : ra = rlen t := by unfold rlen; rw [hq]
      have qb : rb = roff t := by unfold roff; rw [hq]
      have qc : rc = rstr t := by unfold rstr; rw [hq]
      have qe : re = rty t := by unfold rty; rw [hq]
      subst qa qb qc qe
      cases h
      intro hl hol hos p e s mid args below meth c C H locs la hPw hS hL
      obtain ⟨hx, hb, -, -, hown, hts, -, hK, -, hN, -, -, -, hok⟩ := id C
      obtain ⟨hd, hn1⟩ := fetch_1 hok hf rfl
      subst hn1
      have ho := okl_cons.mp (okl_cons.mp hos).2
      obtain ⟨hh, hlay, hao⟩ := aw_cell ho.1 (by omega) (isX_lt (by omega))
      show W _ _ _ _ _ _ _ _ _ _ _ _ _ _ _ (F0 mid pc la (.int j :: .ref (aof G.2.1 t h0) :: r.map (cv G.2.1)))
      rw [hao]
      have he : (wsOf G.2.1 m)[h0]? = some (xb G.2.1 + h0, .inl (xc G.2.1 t, rlen t, .inr (.inr (.inr (.inr (fun i => some (xb G.2.1 + (h0 + roff t + rstr t * i)))))))) := by rw [ws_get _ _ hh, cel_r hlay hc1 hc2]
      have hlt : j.toNatClampNeg < rlen t := Nat.not_le.mp fun q => hP (Or.inr q)
      obtain ⟨g1, g2⟩ := clo_a (i := j.toNatClampNeg) hN hh (by rw [hlay]; exact hc2) (by rw [hlay]; exact hc1) (by rw [hlay]; exact hlt)
      rw [hlay] at g1 g2
      have hXr : isX (rty t) = false := by rw [← g2]; exact clo_X hN g1
      have ht : ∃ (t0 : Nat) (ty : FieldType), (tysOf G.2.1)[t0]? = some (xc G.2.1 t, ty) ∧ ty.isReference = true := by
        have h5 : t = 20 ∨ t = 21 ∨ t = 22 ∨ t = 23 ∨ t = 24 := by omega
        rcases h5 with rfl | rfl | rfl | rfl | rfl
        · exact ⟨3, _, rfl, rfl⟩
        · exact ⟨4, _, rfl, rfl⟩
        · exact ⟨5, _, rfl, rfl⟩
        · exact ⟨6, _, rfl, rfl⟩
        · exact ⟨7, _, rfl, rfl⟩
      obtain ⟨t0, ty, ht0, hrk⟩ := ht
      have kk := k hl hol (okl_cons.mpr ⟨Or.inr (Or.inr ⟨hXr, g1, g2⟩), ho.2⟩) p e s mid args below meth c C H locs la hPw hS hL
      have e9 : cv G.2.1 (vR (rty t) (h0 + roff t + rstr t * j.toNatClampNeg)) = va_rf (some (xb G.2.1 + (h0 + roff t + rstr t * j.toNatClampNeg))) := by
        show Value.ref (aof _ _ _) = _
        rw [aof_in hXr]
        rfl
      have kk : W p G.1 e G.2.2.1 s mid args below meth c H locs G.2.2.2.1 G.2.2.2.2.1 (G.2.2.2.2.2.2 below args s) (F0 mid (pc + 1) la (cv G.2.1 (vR (rty t) (h0 + roff t + rstr t * j.toNatClampNeg)) :: r.map (cv G.2.1))) := kk
      rw [e9] at kk
      exact W.aald (v := va_rf (some (xb G.2.1 + (h0 + roff t + rstr t * j.toNatClampNeg)))) (ty := ty) hx hb (hPw h0 _ he) ((hK.2 t0 _ ht0).1 (rlen t) (fun i => va_rf (some (xb G.2.1 + (h0 + roff t + rstr t * i))))) hrk (fun q => by cases q) (by show ¬ (j < 0 ∨ (arrV _ _ _).slots.size ≤ _); rw [arrV_size]; exact hP) (by show (arrV _ _ _).slots[_]? = _; rw [arrV_read _ _ hlt]) rfl rfl hd kk
    · cases h
  · cases h
end
end
section
section
variable {G : GG} {pc np tg : Nat} {lit : Int32} {ls st st' : List AV} {m : Mem} {P : Prop} {np' : Nat} {ls' : List AV} {m' : Mem}
theorem aw_const {i : Instr} (hf : G.2.2.2.2.2.1.2.2.2.2.2.lookup pc = some (i, np, tg, lit)) (hi : isSw i = false) (hw : litE G.2.2.2.2.2.1.2.2.2.2.1 i pc tg lit = true → ∀ (p : Program) (l : Launch) (e : Env) (R : Room) (s : State) (mi : MethodId) (args : Array Value) (below : List Frame) (meth : Method) (co : Code) (H : Heap) (locs : List Loc) (cells slots : Nat) (Q : State → Prop) (cc : ByteArray) (la : Array Slot) (rest : List Value), p.tables.exec = Jvm.exec → co.code = cc → s.vm.findClass (Rn G.2.2.2.2.2.1.2.2.2.2.1) = some mi.cls → (∀ w ∈ GT, w.before args s = true) → decode cc pc = .ok (i, ilen i) → W p l e R s mi args below meth co H locs cells slots Q (F0 mi (pc + ilen i) la (.int lit :: rest)) → W p l e R s mi args below meth co H locs cells slots Q (F0 mi pc la rest))
    (k : AW G np ls (vI lit :: st) m) : AW G pc ls st m := by
  intro hl hol hos p e s mid args below meth c C H locs la hPw hS hL
  obtain ⟨hx, hb, -, -, hown, hts, -, -, -, -, -, -, -, hok⟩ := id C
  obtain ⟨hd, hn⟩ := fetch_1 hok hf hi
  subst hn
  exact hw (fetch_ok hok hf).2.2 _ _ _ _ _ _ _ _ _ _ _ _ _ _ _ _ _ _ hx hb hown hts hd (k hl hol (okl_cons.mpr ⟨trivial, hos⟩) p e s mid args below meth c C H locs la hPw hS hL)
theorem sSt_inv {j c : Nat} (h : sSt j c np ls st m = some (P, np', ls', st', m')) : np' = np ∧ m' = m ∧ noL ls j = true ∧ ((c = 0 ∧ j < ls.length ∧ ∃ x r, st = vI x :: r ∧ st' = r ∧ ls' = ls.set j (vI x)) ∨ (c = 1 ∧ j + 1 < ls.length ∧ ∃ x r, st = vJ x :: r ∧ st' = r ∧ ls' = (ls.set j (vJ x)).set (j + 1) vU) ∨ (c = 2 ∧ j < ls.length ∧ ∃ t h0 r, st = vR t h0 :: r ∧ st' = r ∧ ls' = ls.set j (vR t h0))) := by
  unfold sSt at h
  split at h
  · split at h
    · rename_i hc
      simp only [Bool.and_eq_true, decide_eq_true_eq, beq_iff_eq] at hc
      cases h
      exact ⟨rfl, rfl, hc.2.2, Or.inl ⟨hc.1, hc.2.1, _, _, rfl, rfl, rfl⟩⟩
    · cases h
  · split at h
    · rename_i hc
      simp only [Bool.and_eq_true, decide_eq_true_eq, beq_iff_eq] at hc
      cases h
      exact ⟨rfl, rfl, hc.2.2, Or.inr (Or.inl ⟨hc.1, hc.2.1, _, _, rfl, rfl, rfl⟩)⟩
    · cases h
  · split at h
    · rename_i hc
      simp only [Bool.and_eq_true, decide_eq_true_eq, beq_iff_eq] at hc
      cases h
      exact ⟨rfl, rfl, hc.2.2, Or.inr (Or.inr ⟨hc.1, hc.2.1, _, _, _, rfl, rfl, rfl⟩)⟩
    · cases h
  · cases h
theorem aw_inc {j : Nat} {n : Int} (hf : G.2.2.2.2.2.1.2.2.2.2.2.lookup pc = some (.iinc j n, np, tg, lit)) (h : sInc j lit np ls st m = some (P, np', ls', st', m')) (k : AW G np' ls' st' m') : AW G pc ls st m := by
  unfold sInc at h
  split at h
  · rename_i x hx0
    split at h
    · rename_i hno
      cases h
      intro hl hol hos p e s mid args below meth c C H locs la hPw hS hL
      obtain ⟨hx, hb, -, -, hown, hts, -, -, -, -, -, -, -, hok⟩ := id C
      obtain ⟨hd, hn⟩ := fetch_1 hok hf rfl
      subst hn
      have hlit : Int32.ofInt n = lit := by
        have := (fetch_ok hok hf).2.2
        simpa [litE] using this
      have hj : j < ls.length := by
        rcases Nat.lt_or_ge j ls.length with q | q
        · exact q
        · rw [List.getD_eq_getElem?_getD, List.getElem?_eq_none q] at hx0
          cases hx0
      have hm0 : (j, Value.int x) ∈ asc G.2.1 ls := asc_mem.mpr ⟨vI x, by
        rw [List.getD_eq_getElem?_getD] at hx0
        cases hl0 : ls[j]? with
        | none => rw [hl0] at hx0; cases hx0
        | some w => rw [hl0] at hx0; have hx0 : w = vI x := hx0; rw [hx0], rfl, rfl⟩
      obtain ⟨kk, hkk⟩ := List.getElem?_of_mem hm0
      exact lv_iinc (v := x + lit) hx hb hd (lRep_has hL) hkk (by rw [hlit]) hj rfl (fun la' h' => k (by rw [List.length_set]; exact hl) (okl_set hol trivial) hos p e s mid args below meth c C H locs la' hPw hS (lRep_set (v := vI (x + lit)) hj hno h'))
    · cases h
  · cases h
set_option maxHeartbeats 4000000 in
theorem AW.step {q : Instr × Nat × Nat × Int32} (hf : G.2.2.2.2.2.1.2.2.2.2.2.lookup pc = some q) (h : astep G.2.2.2.2.2.1.2.2.2.2.1 q ls st m = some (P, np', ls', st', m')) (hP : P) (k : AW G np' ls' st' m') : AW G pc ls st m := by
  obtain ⟨i, np, tg, lit⟩ := q
  cases i
  case iconst n =>
    cases h
    exact aw_const hf rfl (fun hl _ _ _ _ _ _ _ _ _ _ _ _ _ _ _ _ _ _ hx hb _ _ hd kk => lv_iconst hx hb hd (by simpa [litE] using hl) kk) k
  case bipush n =>
    cases h
    exact aw_const hf rfl (fun hl _ _ _ _ _ _ _ _ _ _ _ _ _ _ _ _ _ _ hx hb _ _ hd kk => lv_bipush hx hb hd (by simpa [litE] using hl) kk) k
  case sipush n =>
    cases h
    exact aw_const hf rfl (fun hl _ _ _ _ _ _ _ _ _ _ _ _ _ _ _ _ _ _ hx hb _ _ hd kk => lv_sipush hx hb hd (by simpa [litE] using hl) kk) k
  case ldc x =>
    simp only [astep] at h
    split at h
    · rename_i h9
      have h9 : tg = 999 := by simpa using h9
      cases h
      refine aw_const hf rfl (fun hl _ _ _ _ _ _ _ _ _ _ _ _ _ _ _ _ _ _ hx hb ho ht hd kk => lv_ldc hx hb ho (ht _ (ct_ok ?_)) hd kk) k
      simp only [litE, h9] at hl
      rw [Bool.or_eq_true] at hl
      rcases hl with hl | hl
      · simpa using hl
      · exfalso
        have : SRF.any (fun q => q.2.2.2 == 999) = false := by decide +kernel
        have h2 : SRF.any (fun q => q.2.2.2 == 999) = true := by
          obtain ⟨y, hy, hy2⟩ := List.any_eq_true.mp hl
          simp only [Bool.and_eq_true] at hy2
          exact List.any_eq_true.mpr ⟨y, hy, hy2.2.2⟩
        rw [this] at h2
        cases h2
    · cases h
  case ldc_w x =>
    simp only [astep] at h
    split at h
    · rename_i h9
      have h9 : tg = 999 := by simpa using h9
      cases h
      refine aw_const hf rfl (fun hl _ _ _ _ _ _ _ _ _ _ _ _ _ _ _ _ _ _ hx hb ho ht hd kk => lv_ldcw hx hb ho (ht _ (ct_ok ?_)) hd kk) k
      simp only [litE, h9] at hl
      rw [Bool.or_eq_true] at hl
      rcases hl with hl | hl
      · simpa using hl
      · exfalso
        have : SRF.any (fun q => q.2.2.2 == 999) = false := by decide +kernel
        have h2 : SRF.any (fun q => q.2.2.2 == 999) = true := by
          obtain ⟨y, hy, hy2⟩ := List.any_eq_true.mp hl
          simp only [Bool.and_eq_true] at hy2
          exact List.any_eq_true.mpr ⟨y, hy, hy2.2.2⟩
        rw [this] at h2
        cases h2
    · cases h
  case lconst n =>
    cases h
    exact aw_pure (st' := vJ (Int64.ofNat n.val) :: st) hf rfl (fun q _ => okl_cons.mpr ⟨trivial, q⟩) (fun _ _ _ _ _ _ _ _ _ _ _ _ _ _ _ _ _ _ hx hb hd kk => lv_lconst hx hb hd rfl kk) k
  case ldc2_w x =>
    simp only [astep] at h
    split at h
    · rename_i e9 he9
      cases h
      intro hl hol hos p e s mid args below meth c C H locs la hPw hS hL
      obtain ⟨hx, hb, -, -, hown, hts, -, -, -, -, -, -, -, hok⟩ := id C
      obtain ⟨hd, hn⟩ := fetch_1 hok hf rfl
      subst hn
      exact lv_ldc2 hx hb hown (hts _ (lt_ok he9)) hd (k hl hol (okl_cons.mpr ⟨trivial, hos⟩) p e s mid args below meth c C H locs la hPw hS hL)
    · cases h
  case iload j =>
    refine aw_ld hf rfl (fun v hv _ _ _ _ _ _ _ _ _ _ _ _ _ _ _ _ _ _ _ hx hb hd hg kk => ?_) h k
    rcases hv with ⟨-, x, rfl⟩ | ⟨hv, -⟩ | ⟨hv, -⟩
    · exact lv_iload hx hb hd hg kk
    · cases hv
    · cases hv
  case iload_n j =>
    refine aw_ld hf rfl (fun v hv _ _ _ _ _ _ _ _ _ _ _ _ _ _ _ _ _ _ _ hx hb hd hg kk => ?_) h k
    rcases hv with ⟨-, x, rfl⟩ | ⟨hv, -⟩ | ⟨hv, -⟩
    · exact lv_iload_n hx hb hd rfl hg kk
    · cases hv
    · cases hv
  case lload j =>
    refine aw_ld hf rfl (fun v hv _ _ _ _ _ _ _ _ _ _ _ _ _ _ _ _ _ _ _ hx hb hd hg kk => ?_) h k
    rcases hv with ⟨hv, -⟩ | ⟨-, x, rfl⟩ | ⟨hv, -⟩
    · cases hv
    · exact lv_lload hx hb hd hg kk
    · cases hv
  case lload_n j =>
    refine aw_ld hf rfl (fun v hv _ _ _ _ _ _ _ _ _ _ _ _ _ _ _ _ _ _ _ hx hb hd hg kk => ?_) h k
    rcases hv with ⟨hv, -⟩ | ⟨-, x, rfl⟩ | ⟨hv, -⟩
    · cases hv
    · exact lv_lload_n hx hb hd rfl hg kk
    · cases hv
  case aload j =>
    refine aw_ld hf rfl (fun v hv _ _ _ _ _ _ _ _ _ _ _ _ _ _ _ _ _ _ _ hx hb hd hg kk => ?_) h k
    rcases hv with ⟨hv, -⟩ | ⟨hv, -⟩ | ⟨-, x, rfl⟩
    · cases hv
    · cases hv
    · exact lv_aload hx hb hd hg kk
  case aload_n j =>
    refine aw_ld hf rfl (fun v hv _ _ _ _ _ _ _ _ _ _ _ _ _ _ _ _ _ _ _ hx hb hd hg kk => ?_) h k
    rcases hv with ⟨hv, -⟩ | ⟨hv, -⟩ | ⟨-, x, rfl⟩
    · cases hv
    · cases hv
    · exact lv_aload_n hx hb hd rfl hg kk
  case istore j =>
    obtain ⟨rfl, rfl, hno, ⟨-, hj, x, r, rfl, rfl, rfl⟩ | ⟨hc, -⟩ | ⟨hc, -⟩⟩ := sSt_inv h
    · exact aw_st1 (v := vI x) hf rfl hj hno (fun _ _ _ _ _ _ _ _ _ _ _ _ _ _ _ _ _ _ _ _ _ hx hb hd hh hn kk => lv_istore hx hb hd hh hn rfl kk) k
    · cases hc
    · cases hc
  case istore_n j =>
    obtain ⟨rfl, rfl, hno, ⟨-, hj, x, r, rfl, rfl, rfl⟩ | ⟨hc, -⟩ | ⟨hc, -⟩⟩ := sSt_inv h
    · exact aw_st1 (v := vI x) hf rfl hj hno (fun _ _ _ _ _ _ _ _ _ _ _ _ _ _ _ _ _ _ _ _ _ hx hb hd hh hn kk => lv_istore_n hx hb hd rfl hh hn rfl kk) k
    · cases hc
    · cases hc
  case lstore j =>
    obtain ⟨rfl, rfl, hno, ⟨hc, -⟩ | ⟨-, hj, x, r, rfl, rfl, rfl⟩ | ⟨hc, -⟩⟩ := sSt_inv h
    · cases hc
    · exact aw_st2 hf rfl hj hno (fun _ _ _ _ _ _ _ _ _ _ _ _ _ _ _ _ _ _ _ _ _ hx hb hd hh hn kk => lv_lstore hx hb hd hh hn rfl kk) k
    · cases hc
  case lstore_n j =>
    obtain ⟨rfl, rfl, hno, ⟨hc, -⟩ | ⟨-, hj, x, r, rfl, rfl, rfl⟩ | ⟨hc, -⟩⟩ := sSt_inv h
    · cases hc
    · exact aw_st2 hf rfl hj hno (fun _ _ _ _ _ _ _ _ _ _ _ _ _ _ _ _ _ _ _ _ _ hx hb hd hh hn kk => lv_lstore_n hx hb hd rfl hh hn rfl kk) k
    · cases hc
  case astore j =>
    obtain ⟨rfl, rfl, hno, ⟨hc, -⟩ | ⟨hc, -⟩ | ⟨-, hj, t, h0, r, rfl, rfl, rfl⟩⟩ := sSt_inv h
    · cases hc
    · cases hc
    · exact aw_st1 (v := vR t h0) hf rfl hj hno (fun _ _ _ _ _ _ _ _ _ _ _ _ _ _ _ _ _ _ _ _ _ hx hb hd hh hn kk => lv_astore hx hb hd hh hn rfl kk) k
  case astore_n j =>
    obtain ⟨rfl, rfl, hno, ⟨hc, -⟩ | ⟨hc, -⟩ | ⟨-, hj, t, h0, r, rfl, rfl, rfl⟩⟩ := sSt_inv h
    · cases hc
    · cases hc
    · exact aw_st1 (v := vR t h0) hf rfl hj hno (fun _ _ _ _ _ _ _ _ _ _ _ _ _ _ _ _ _ _ _ _ _ hx hb hd hh hn kk => lv_astore_n hx hb hd rfl hh hn rfl kk) k
  case iinc j n => exact aw_inc hf h k
  case iadd => exact aw_bin hf rfl (fun _ _ _ _ _ _ _ _ _ _ _ _ _ _ _ _ _ _ _ _ _ hx hb hd kk => lv_iadd hx hb hd kk) h k
  case isub => exact aw_bin hf rfl (fun _ _ _ _ _ _ _ _ _ _ _ _ _ _ _ _ _ _ _ _ _ hx hb hd kk => lv_isub hx hb hd kk) h k
  case imul => exact aw_bin hf rfl (fun _ _ _ _ _ _ _ _ _ _ _ _ _ _ _ _ _ _ _ _ _ hx hb hd kk => lv_imul hx hb hd kk) h k
  case iand => exact aw_bin hf rfl (fun _ _ _ _ _ _ _ _ _ _ _ _ _ _ _ _ _ _ _ _ _ hx hb hd kk => lv_iand hx hb hd kk) h k
  case ior => exact aw_bin hf rfl (fun _ _ _ _ _ _ _ _ _ _ _ _ _ _ _ _ _ _ _ _ _ hx hb hd kk => lv_ior hx hb hd kk) h k
  case ishl => exact aw_bin hf rfl (fun _ _ _ _ _ _ _ _ _ _ _ _ _ _ _ _ _ _ _ _ _ hx hb hd kk => lv_ishl hx hb hd kk) h k
  case ishr => exact aw_bin hf rfl (fun _ _ _ _ _ _ _ _ _ _ _ _ _ _ _ _ _ _ _ _ _ hx hb hd kk => lv_ishr hx hb hd kk) h k
  case iushr => exact aw_bin hf rfl (fun _ _ _ _ _ _ _ _ _ _ _ _ _ _ _ _ _ _ _ _ _ hx hb hd kk => lv_iushr hx hb hd rfl kk) h k
  case idiv => exact aw_div hf rfl (fun _ _ _ hy _ _ _ _ _ _ _ _ _ _ _ _ _ _ _ _ _ _ hx hb hd kk => lv_idiv hx hb hd hy kk) h hP k
  case irem => exact aw_div hf rfl (fun _ _ _ hy _ _ _ _ _ _ _ _ _ _ _ _ _ _ _ _ _ _ hx hb hd kk => lv_irem hx hb hd hy kk) h hP k
  case ineg => exact aw_un hf rfl (fun _ _ _ _ _ _ _ _ _ _ _ _ _ _ _ _ _ _ _ _ hx hb hd kk => lv_ineg hx hb hd kk) h k
  case i2b => exact aw_un hf rfl (fun _ _ _ _ _ _ _ _ _ _ _ _ _ _ _ _ _ _ _ _ hx hb hd kk => lv_i2b hx hb hd rfl kk) h k
  case i2s => exact aw_un hf rfl (fun _ _ _ _ _ _ _ _ _ _ _ _ _ _ _ _ _ _ _ _ hx hb hd kk => lv_i2s hx hb hd rfl kk) h k
  case i2c => exact aw_un hf rfl (fun _ _ _ _ _ _ _ _ _ _ _ _ _ _ _ _ _ _ _ _ hx hb hd kk => lv_i2c hx hb hd rfl kk) h k
  case i2l =>
    simp only [astep] at h
    split at h
    · rename_i x r
      cases h
      exact aw_pure (st' := vJ x.toInt64 :: r) hf rfl (fun q _ => okl_cons.mpr ⟨trivial, (okl_cons.mp q).2⟩) (fun _ _ _ _ _ _ _ _ _ _ _ _ _ _ _ _ _ _ hx hb hd kk => lv_i2l hx hb hd rfl kk) k
    · cases h
  case l2i =>
    simp only [astep] at h
    split at h
    · rename_i x r
      cases h
      exact aw_pure (st' := vI x.toInt32 :: r) hf rfl (fun q _ => okl_cons.mpr ⟨trivial, (okl_cons.mp q).2⟩) (fun _ _ _ _ _ _ _ _ _ _ _ _ _ _ _ _ _ _ hx hb hd kk => lv_l2i hx hb hd rfl kk) k
    · cases h
  case lcmp =>
    simp only [astep] at h
    split at h
    · rename_i y x r
      cases h
      exact aw_pure (st' := vI (lg_cmp x y) :: r) hf rfl (fun q _ => okl_cons.mpr ⟨trivial, (okl_cons.mp (okl_cons.mp q).2).2⟩) (fun _ _ _ _ _ _ _ _ _ _ _ _ _ _ _ _ _ _ hx hb hd kk => W.lcmp hx hb hd kk) k
    · cases h
  case ladd => exact aw_binJ hf rfl (fun _ _ _ _ _ _ _ _ _ _ _ _ _ _ _ _ _ _ _ _ _ hx hb hd kk => lv_ladd hx hb hd kk) h k
  case lmul => exact aw_binJ hf rfl (fun _ _ _ _ _ _ _ _ _ _ _ _ _ _ _ _ _ _ _ _ _ hx hb hd kk => lv_lmul hx hb hd kk) h k
  case ldiv => exact aw_divJ hf rfl (fun _ _ _ hy _ _ _ _ _ _ _ _ _ _ _ _ _ _ _ _ _ _ hx hb hd kk => lv_ldiv hx hb hd hy kk) h hP k
  case lrem => exact aw_divJ hf rfl (fun _ _ _ hy _ _ _ _ _ _ _ _ _ _ _ _ _ _ _ _ _ _ hx hb hd kk => lv_lrem hx hb hd hy kk) h hP k
  case dup =>
    simp only [astep] at h
    split at h
    · rename_i x r
      cases h
      exact aw_pure (st' := vI x :: vI x :: r) hf rfl (fun q _ => okl_cons.mpr ⟨trivial, q⟩) (fun _ _ _ _ _ _ _ _ _ _ _ _ _ _ _ _ _ _ hx hb hd kk => lv_dup hx hb hd rfl kk) k
    · rename_i x r
      cases h
      exact aw_pure (st' := .inr (.inr x) :: .inr (.inr x) :: r) hf rfl (fun q _ => okl_cons.mpr ⟨(okl_cons.mp q).1, q⟩) (fun _ _ _ _ _ _ _ _ _ _ _ _ _ _ _ _ _ _ hx hb hd kk => lv_dup hx hb hd rfl kk) k
    · cases h
  case pop =>
    simp only [astep] at h
    split at h
    · rename_i x
      cases h
      exact aw_pure hf rfl (fun q _ => (okl_cons.mp q).2) (fun _ _ _ _ _ _ _ _ _ _ _ _ _ _ _ _ _ _ hx hb hd kk => lv_pop hx hb hd rfl kk) k
    · rename_i x
      cases h
      exact aw_pure hf rfl (fun q _ => (okl_cons.mp q).2) (fun _ _ _ _ _ _ _ _ _ _ _ _ _ _ _ _ _ _ hx hb hd kk => lv_pop hx hb hd rfl kk) k
    · cases h
  case goto o =>
    cases h
    intro hl hol hos p e s mid args below meth c C H locs la hPw hS hL
    obtain ⟨hx, hb, -, -, hown, hts, -, -, -, -, -, -, -, hok⟩ := id C
    obtain ⟨hd, hn⟩ := fetch_1 hok hf rfl
    have htg : (pc : Int) + o = (np' : Int) := by
      have := (fetch_ok hok hf).2.2
      simpa [litE] using this
    exact lv_goto hx hb hd htg (k hl hol hos p e s mid args below meth c C H locs la hPw hS hL)
  case getfield j => exact aw_get hf h hP k
  case putfield j => exact aw_put hf h hP k
  case iaload => exact aw_ald (a := 0) (ty := .int) hf rfl (by decide) (fun X m h t => cel_i) (fun X => rfl) (fun _ _ _ _ _ _ _ _ _ _ _ _ _ _ _ _ _ _ _ _ _ _ q0 t0 _ _ _ _ _ hx hb hK hP he ht hin hd kk => va_iald hx hb hK hP q0 t0 he ht hin hd kk) h hP k
  case baload => exact aw_ald (a := 1) (ty := .boolean) hf rfl (by decide) (fun X m h t => cel_z) (fun X => rfl) (fun _ _ _ _ _ _ _ _ _ _ _ _ _ _ _ _ _ _ _ _ _ _ q0 t0 _ _ _ _ _ hx hb hK hP he ht hin hd kk => va_zald hx hb hK hP q0 t0 he ht hin hd kk) h hP k
  case caload => exact aw_ald (a := 2) (ty := .char) hf rfl (by decide) (fun X m h t e1 e2 _ => cel_c e1 e2) (fun X => rfl) (fun _ _ _ _ _ _ _ _ _ _ _ _ _ _ _ _ _ _ _ _ _ _ q0 t0 _ _ _ _ _ hx hb hK hP he ht hin hd kk => va_cald hx hb hK hP q0 t0 he ht hin hd kk) h hP k
  case iastore => exact aw_ast (a := 0) (ty := .int) hf rfl (by decide) (fun X m h t => cel_i) (fun X => rfl) (fun _ _ _ _ _ _ _ _ _ _ _ _ _ _ _ _ _ _ _ _ _ _ _ _ q0 t0 _ _ _ _ _ _ _ hx hb hK hP hD hS he ht hin hd kk => va_iast hx hb hK hP hD hS q0 t0 he ht hin hd (fun H1 l1 a1 _ a3 => kk H1 l1 a1 a3)) h hP k
  case bastore => exact aw_ast (a := 1) (ty := .boolean) hf rfl (by decide) (fun X m h t => cel_z) (fun X => rfl) (fun _ _ _ _ _ _ _ _ _ _ _ _ _ _ _ _ _ _ _ _ _ _ _ _ q0 t0 _ _ _ _ _ _ h01 hx hb hK hP hD hS he ht hin hd kk => va_zast hx hb hK hP hD hS q0 t0 he ht hin hd (fun H1 l1 a1 _ a3 => kk H1 l1 (by rw [vp_nar_b (h01 rfl)] at a1; exact a1) a3)) h hP k
  case aaload => exact aw_aal hf h hP k
  all_goals (cases h)
end
end
section
section
variable {G : GG} {pc np tg : Nat} {lit : Int32} {ls st st' r : List AV} {m : Mem}
-- ===== branches =====
def abr (q : Instr × Nat × Nat × Int32) (st : List AV) : Option (Prop × Nat × Nat × List AV) := match q with
  | (i, np, tg, _) => match i with
  | .ifCond c _ => match st with
    | .inl x :: r => match c with
      | .eq => some (x = 0, tg, np, r)
      | .ne => some (x = 0, np, tg, r)
      | .lt => some (x < 0, tg, np, r)
      | .ge => some (x < 0, np, tg, r)
      | .gt => some (0 < x, tg, np, r)
      | .le => some (0 < x, np, tg, r)
    | _ => none
  | .if_icmp c _ => match st with
    | .inl y :: .inl x :: r => match c with
      | .eq => some (x = y, tg, np, r)
      | .ne => some (x = y, np, tg, r)
      | .lt => some (x < y, tg, np, r)
      | .ge => some (x < y, np, tg, r)
      | .gt => some (y < x, tg, np, r)
      | .le => some (y < x, np, tg, r)
    | _ => none
  | _ => none
theorem aw_br1 {c : Jvm.ClassFile.Cond} {o : Int} {x : Int32} {cd : Prop} {t1 t2 : Nat} (hf : G.2.2.2.2.2.1.2.2.2.2.2.lookup pc = some (.ifCond c o, np, tg, lit)) (h : abr (.ifCond c o, np, tg, lit) (vI x :: r) = some (cd, t1, t2, st')) (k1 : cd → AW G t1 ls st' m) (k2 : ¬ cd → AW G t2 ls st' m) : AW G pc ls (vI x :: r) m := by
  intro hl hol hos p e s mid args below meth co C H locs la hPw hS hL
  obtain ⟨hx, hb, -, -, hown, hts, -, -, -, -, -, -, -, hok⟩ := id C
  obtain ⟨hd, hn⟩ := fetch_1 hok hf rfl
  have hn : np = pc + 3 := hn
  subst hn
  have htg : (pc : Int) + o = (tg : Int) := by
    have := (fetch_ok hok hf).2.2
    simpa [litE] using this
  have ho := (okl_cons.mp hos).2
  cases c
  case eq => cases h; exact lv_if_eq hx hb hd htg (fun q => k1 q hl hol ho p e s mid args below meth co C H locs la hPw hS hL) (fun q => k2 q hl hol ho p e s mid args below meth co C H locs la hPw hS hL)
  case ne => cases h; exact lv_if_ne hx hb hd htg (fun q => k2 q hl hol ho p e s mid args below meth co C H locs la hPw hS hL) (fun q => k1 q hl hol ho p e s mid args below meth co C H locs la hPw hS hL)
  case lt => cases h; exact lv_if_lt hx hb hd htg (fun q => k1 q hl hol ho p e s mid args below meth co C H locs la hPw hS hL) (fun q => k2 q hl hol ho p e s mid args below meth co C H locs la hPw hS hL)
  case ge => cases h; exact lv_if_ge hx hb hd htg (fun q => k2 (Int32.not_lt.mpr q) hl hol ho p e s mid args below meth co C H locs la hPw hS hL) (fun q => k1 (Int32.not_le.mp q) hl hol ho p e s mid args below meth co C H locs la hPw hS hL)
  case gt => cases h; exact lv_if_gt hx hb hd htg (fun q => k1 q hl hol ho p e s mid args below meth co C H locs la hPw hS hL) (fun q => k2 q hl hol ho p e s mid args below meth co C H locs la hPw hS hL)
  case le => cases h; exact lv_if_le hx hb hd htg (fun q => k2 (Int32.not_lt.mpr q) hl hol ho p e s mid args below meth co C H locs la hPw hS hL) (fun q => k1 (Int32.not_le.mp q) hl hol ho p e s mid args below meth co C H locs la hPw hS hL)
theorem aw_br2 {c : Jvm.ClassFile.Cond} {o : Int} {x y : Int32} {cd : Prop} {t1 t2 : Nat} (hf : G.2.2.2.2.2.1.2.2.2.2.2.lookup pc = some (.if_icmp c o, np, tg, lit)) (h : abr (.if_icmp c o, np, tg, lit) (vI y :: vI x :: r) = some (cd, t1, t2, st')) (k1 : cd → AW G t1 ls st' m) (k2 : ¬ cd → AW G t2 ls st' m) : AW G pc ls (vI y :: vI x :: r) m := by
  intro hl hol hos p e s mid args below meth co C H locs la hPw hS hL
  obtain ⟨hx, hb, -, -, hown, hts, -, -, -, -, -, -, -, hok⟩ := id C
  obtain ⟨hd, hn⟩ := fetch_1 hok hf rfl
  have hn : np = pc + 3 := hn
  subst hn
  have htg : (pc : Int) + o = (tg : Int) := by
    have := (fetch_ok hok hf).2.2
    simpa [litE] using this
  have ho := (okl_cons.mp (okl_cons.mp hos).2).2
  cases c
  case eq => cases h; exact lv_icmp_eq hx hb hd htg (fun q => k1 q hl hol ho p e s mid args below meth co C H locs la hPw hS hL) (fun q => k2 q hl hol ho p e s mid args below meth co C H locs la hPw hS hL)
  case ne => cases h; exact lv_icmp_ne hx hb hd htg (fun q => k2 q hl hol ho p e s mid args below meth co C H locs la hPw hS hL) (fun q => k1 q hl hol ho p e s mid args below meth co C H locs la hPw hS hL)
  case lt => cases h; exact lv_icmp_lt hx hb hd htg (fun q => k1 q hl hol ho p e s mid args below meth co C H locs la hPw hS hL) (fun q => k2 q hl hol ho p e s mid args below meth co C H locs la hPw hS hL)
  case ge => cases h; exact lv_icmp_ge hx hb hd htg (fun q => k2 (Int32.not_lt.mpr q) hl hol ho p e s mid args below meth co C H locs la hPw hS hL) (fun q => k1 (Int32.not_le.mp q) hl hol ho p e s mid args below meth co C H locs la hPw hS hL)
  case gt => cases h; exact lv_icmp_gt hx hb hd htg (fun q => k1 q hl hol ho p e s mid args below meth co C H locs la hPw hS hL) (fun q => k2 q hl hol ho p e s mid args below meth co C H locs la hPw hS hL)
  case le => cases h; exact lv_icmp_le hx hb hd htg (fun q => k2 (Int32.not_lt.mpr q) hl hol ho p e s mid args below meth co C H locs la hPw hS hL) (fun q => k1 (Int32.not_le.mp q) hl hol ho p e s mid args below meth co C H locs la hPw hS hL)
theorem AW.br {q : Instr × Nat × Nat × Int32} {cd : Prop} {t1 t2 : Nat} (hf : G.2.2.2.2.2.1.2.2.2.2.2.lookup pc = some q) (h : abr q st = some (cd, t1, t2, st')) (k1 : cd → AW G t1 ls st' m) (k2 : ¬ cd → AW G t2 ls st' m) : AW G pc ls st m := by
  obtain ⟨i, np, tg, lit⟩ := q
  cases i
  case ifCond c o =>
    rcases st with _ | ⟨x | x | x, r⟩
    · cases h
    · exact aw_br1 hf h k1 k2
    · cases h
    · cases h
  case if_icmp c o =>
    rcases st with _ | ⟨y | y | y, _ | ⟨x | x | x, r⟩⟩
    · cases h
    · cases h
    · exact aw_br2 hf h k1 k2
    all_goals (cases h)
  all_goals (cases h)
theorem AW.tin {d lo hi off : Int} {offs : Array Int} {x : Int32} {tgt : Nat} (hf : G.2.2.2.2.2.1.2.2.2.2.2.lookup pc = some (.tableswitch d lo hi offs, np, tg, lit)) (h1 : ¬ x.toInt < lo) (h2 : ¬ hi < x.toInt) (ho : offs[(x.toInt - lo).toNat]? = some off) (ht : (pc : Int) + off = (tgt : Int)) (k : AW G tgt ls r m) : AW G pc ls (vI x :: r) m := by
  intro hl hol hos p e s mid args below meth co C H locs la hPw hS hL
  obtain ⟨hx, hb, -, -, hown, hts, -, -, -, -, -, -, -, hok⟩ := id C
  exact lv_tableIn hx hb (fetch_ok hok hf).1 h1 h2 ho ht (k hl hol (okl_cons.mp hos).2 p e s mid args below meth co C H locs la hPw hS hL)
theorem AW.tout {d lo hi : Int} {offs : Array Int} {x : Int32} {tgt : Nat} (hf : G.2.2.2.2.2.1.2.2.2.2.2.lookup pc = some (.tableswitch d lo hi offs, np, tg, lit)) (h : x.toInt < lo ∨ hi < x.toInt) (ht : (pc : Int) + d = (tgt : Int)) (k : AW G tgt ls r m) : AW G pc ls (vI x :: r) m := by
  intro hl hol hos p e s mid args below meth co C H locs la hPw hS hL
  obtain ⟨hx, hb, -, -, hown, hts, -, -, -, -, -, -, -, hok⟩ := id C
  exact lv_tableOut hx hb (fetch_ok hok hf).1 h ht (k hl hol (okl_cons.mp hos).2 p e s mid args below meth co C H locs la hPw hS hL)
theorem AW.look {d off : Int} {ps : Array (Int × Int)} {x : Int32} {tgt : Nat} (hf : G.2.2.2.2.2.1.2.2.2.2.2.lookup pc = some (.lookupswitch d ps, np, tg, lit)) (hp : (ps.toList.zip (ps.toList.drop 1)).all (fun (a, next) => a.1 < next.1) = true) (ho : Op.lookupswitch.offset ps.toList d x.toInt = off) (ht : (pc : Int) + off = (tgt : Int)) (k : AW G tgt ls r m) : AW G pc ls (vI x :: r) m := by
  intro hl hol hos p e s mid args below meth co C H locs la hPw hS hL
  obtain ⟨hx, hb, -, -, hown, hts, -, -, -, -, -, -, -, hok⟩ := id C
  exact lv_lookup hx hb (fetch_ok hok hf).1 hp ho ht (k hl hol (okl_cons.mp hos).2 p e s mid args below meth co C H locs la hPw hS hL)
-- ===== methods: contract, entry, end =====
def rmd (d : Nat) : Room := { frames := d, cells := 0, slots := 0, locals := 60 * d }
def wsM (μ : MI) : List Cond := .code μ.1 μ.2.1 μ.2.2.1 μ.2.2.2.1 :: GT
def PreM (X : XT) (m : Mem) (vs : List AV) : Array Value → State → Prop := fun v U => v = (vs.map (cv X)).toArray ∧ va_P (xD X) vwCl (wsOf X m) U.heap ∧ va_K (xD X) vwCl (tysOf X) U ∧ KS X U U.heap ∧ xb X ≤ U.heap.size
def PostM (X : XT) (Q : Option AV → Mem → Prop) : Array Value → State → Outcome → State → Prop := fun _ st o t => (∃ (r : Option AV) (m' : Mem), o = .returned (r.map (cv X)) ∧ Q r m' ∧ okl X r.toList ∧ va_P (xD X) vwCl (wsOf X m') t.heap) ∧ va_F (xA X) st t
def ZM (X : XT) (Q : Option AV → Mem → Prop) : List Frame → Array Value → State → State → Prop := fun below args s => MQ below (PostM X Q) args s 0 0 (xA X)
/-- the method, called with vs where the cells hold m, returns, and Q holds of answer and cells then -/
def Meth (l : Launch) (X : XT) (d : Nat) (μ : MI) (vs : List AV) (m : Mem) (Q : Option AV → Mem → Prop) : Prop :=
  (xN X = NC ∨ xN X = NTT) → okl X vs → Met l μ.1 (wsM μ) (rmd d) (PreM X m vs) (PostM X Q) 0 0 (xA X)
abbrev GM (l : Launch) (X : XT) (d : Nat) (μ : MI) (Q : Option AV → Mem → Prop) : GG := (l, X, rmd d, 0, 0, μ, ZM X Q)
def entL (vs : List AV) : List AV := match vs with
  | [] => []
  | .inr (.inl x) :: r => vJ x :: vU :: entL r
  | v :: r => v :: entL r
def ent (n : Nat) (vs : List AV) : List AV := entL vs ++ List.replicate (n - (entL vs).length) vU
theorem entL_in {X : XT} (vs : List AV) : ∀ (o k : Nat) (v : AV), (entL vs)[k]? = some v → unk v = false → (o + k, cv X v) ∈ lv_args o (vs.map (cv X)) := by
  induction vs with
  | nil => intro o k v h; simp [entL] at h
  | cons a r ih =>
    intro o k v h hu
    rcases a with x | x | q
    · have e : entL ((.inl x : AV) :: r) = vI x :: entL r := rfl
      rw [e] at h
      cases k with
      | zero => cases h; exact List.mem_cons_self
      | succ k =>
        have := ih (o + 1) k v h hu
        rw [show o + 1 + k = o + (k + 1) by omega] at this
        exact List.mem_cons_of_mem _ this
    · have e : entL ((.inr (.inl x) : AV) :: r) = vJ x :: vU :: entL r := rfl
      rw [e] at h
      match k, h with
      | 0, h => cases h; exact List.mem_cons_self
      | 1, h => cases h; cases hu
      | k + 2, h =>
        have := ih (o + 2) k v h hu
        rw [show o + 2 + k = o + (k + 2) by omega] at this
        exact List.mem_cons_of_mem _ this
    · have e : entL ((.inr (.inr q) : AV) :: r) = .inr (.inr q) :: entL r := rfl
      rw [e] at h
      cases k with
      | zero => cases h; exact List.mem_cons_self
      | succ k =>
        have := ih (o + 1) k v h hu
        rw [show o + 1 + k = o + (k + 1) by omega] at this
        exact List.mem_cons_of_mem _ this
theorem entL_len {X : XT} (vs : List AV) : (lg_sl (vs.map (cv X))).length = (entL vs).length := by
  induction vs with
  | nil => rfl
  | cons a r ih =>
    rcases a with x | x | q
    · show (Slot.val (.int x) :: lg_sl (r.map (cv X))).length = (vI x :: entL r).length
      simp [ih]
    · show (Slot.val (.long x) :: Slot.second :: lg_sl (r.map (cv X))).length = (vJ x :: vU :: entL r).length
      simp [ih]
    · show (Slot.val _ :: lg_sl (r.map (cv X))).length = (_ :: entL r).length
      simp [ih]
theorem ent_ok {X : XT} (vs : List AV) (h : okl X vs) : okl X (entL vs) := by
  induction vs with
  | nil => exact h
  | cons a r ih =>
    have h1 := okl_cons.mp h
    rcases a with x | x | q
    · exact okl_cons.mpr ⟨h1.1, ih h1.2⟩
    · exact okl_cons.mpr ⟨h1.1, okl_cons.mpr ⟨okv_U, ih h1.2⟩⟩
    · exact okl_cons.mpr ⟨h1.1, ih h1.2⟩
theorem Meth.enter {l : Launch} {X : XT} {d : Nat} {μ : MI} {vs : List AV} {Q : Option AV → Mem → Prop} (hok : okP μ.2.2.2.2.1 μ.2.1 μ.2.2.2.2.2 = true) (hpl : plainName μ.1.cls = true) (hcl : μ.1.cls = Rn μ.2.2.2.2.1) (hn : (entL vs).length ≤ μ.2.2.1) (k : AW (GM l X d μ Q) 0 (ent μ.2.2.1 vs) [] m) : Meth l X d μ vs m Q := by
  intro hN hov
  refine Met.ofW (cc := μ.2.1) (maxL := μ.2.2.1) (ret := μ.2.2.2.1) hpl rfl ?_
  intro p e s mid args below meth c s₁ B hml hv
  obtain ⟨rfl, hP, hK, hKS, hbz⟩ := hv
  have hts := atoms_spec (ws := wsM μ) B.pre
  have hown : s.vm.findClass μ.1.cls = some mid.cls := findClass_of_methodNamed B.named
  have hl := lv_entry (vs.map (cv X)) (n := μ.2.2.1) (by rw [entL_len]; exact hn)
  rw [lg_entry_eq]
  have hlen : (ent μ.2.2.1 vs).length = μ.2.2.1 := by
    unfold ent
    rw [List.length_append, List.length_replicate]
    omega
  refine k hlen ?_ okl_nil p e s mid _ below meth c ⟨B.exec, B.bytes, B.returns, hml, by rw [← hcl]; exact hown, fun w hw => hts w (List.mem_cons_of_mem _ hw), B.notSynchronized, hK, hKS, hN, hbz, Nat.le_refl _, Nat.le_refl _, hok⟩ s.heap [] _ hP va_S.rf ?_
  · intro v hv
    unfold ent at hv
    rcases List.mem_append.mp hv with h | h
    · exact ent_ok vs hov v h
    · rw [(List.mem_replicate.mp h).2]
      exact okv_U
  · refine lRep_of hl hlen.symm (fun j v hj hu => ?_)
    unfold ent at hj
    by_cases hjl : j < (entL vs).length
    · rw [List.getElem?_append_left hjl] at hj
      have := entL_in (X := X) vs 0 j v hj hu
      rwa [Nat.zero_add] at this
    · rw [List.getElem?_append_right (by omega)] at hj
      have := List.eq_of_mem_replicate (List.mem_of_getElem? hj)
      subst this
      cases hu
theorem AW.ri {l : Launch} {X : XT} {d : Nat} {μ : MI} {Q : Option AV → Mem → Prop} {v : Int32} {ty : FieldType} (hf : μ.2.2.2.2.2.lookup pc = some (.ireturn, np, tg, lit)) (hr : μ.2.2.2.1 = some ty) (hn : narrow ty (.int v) = .int v) (hq : Q (some (vI v)) m) : AW (GM l X d μ Q) pc ls [vI v] m := by
  intro hl hol hos p e s mid args below meth co C H locs la hPw hS hL
  obtain ⟨hx, hb, hrr, -, hown, hts, hlk, -, -, -, -, -, -, hok⟩ := id C
  obtain ⟨hd, -⟩ := fetch_1 hok hf rfl
  exact W.zret (ty := ty) (v := v) hx hb (hrr.trans hr) hn (fun t ht hW => ⟨⟨some (vI v), m, rfl, hq, hos, by rw [ht]; exact hPw⟩, hS.F ht⟩) hS.2.2 hd
theorem AW.rl {l : Launch} {X : XT} {d : Nat} {μ : MI} {Q : Option AV → Mem → Prop} {v : Int64} (hf : μ.2.2.2.2.2.lookup pc = some (.lreturn, np, tg, lit)) (hr : μ.2.2.2.1 = some .long) (hq : Q (some (vJ v)) m) : AW (GM l X d μ Q) pc ls [vJ v] m := by
  intro hl hol hos p e s mid args below meth co C H locs la hPw hS hL
  obtain ⟨hx, hb, hrr, -, hown, hts, hlk, -, -, -, -, -, -, hok⟩ := id C
  obtain ⟨hd, -⟩ := fetch_1 hok hf rfl
  exact W.lret (v := v) hx hb (hrr.trans hr) (fun t ht hW => ⟨⟨some (vJ v), m, rfl, hq, hos, by rw [ht]; exact hPw⟩, hS.F ht⟩) hS.2.2 hd
theorem AW.ra {l : Launch} {X : XT} {d : Nat} {μ : MI} {Q : Option AV → Mem → Prop} {t h : Nat} {ty : FieldType} (hf : μ.2.2.2.2.2.lookup pc = some (.areturn, np, tg, lit)) (hr : μ.2.2.2.1 = some ty) (hty : (∃ n, ty = .object n) ∨ ∃ t, ty = .array t) (hq : Q (some (vR t h)) m) : AW (GM l X d μ Q) pc ls [vR t h] m := by
  intro hl hol hos p e s mid args below meth co C H locs la hPw hS hL
  obtain ⟨hx, hb, hrr, -, hown, hts, hlk, -, -, -, -, -, -, hok⟩ := id C
  obtain ⟨hd, -⟩ := fetch_1 hok hf rfl
  exact W.aret (v := cv X (vR t h)) hx hb (hrr.trans hr) hty (Or.inr ⟨_, rfl⟩) (fun T ht hW => ⟨⟨some (vR t h), m, rfl, hq, hos, by rw [ht]; exact hPw⟩, hS.F ht⟩) hS.2.2 hd
theorem AW.rv {l : Launch} {X : XT} {d : Nat} {μ : MI} {Q : Option AV → Mem → Prop} (hf : μ.2.2.2.2.2.lookup pc = some (.return_, np, tg, lit)) (hr : μ.2.2.2.1 = none) (hq : Q none m) : AW (GM l X d μ Q) pc ls [] m := by
  intro hl hol hos p e s mid args below meth co C H locs la hPw hS hL
  obtain ⟨hx, hb, hrr, -, hown, hts, hlk, -, -, -, -, -, -, hok⟩ := id C
  obtain ⟨hd, -⟩ := fetch_1 hok hf rfl
  exact W.vret hx hb (hrr.trans hr) (fun t ht hW => ⟨⟨none, m, rfl, hq, okl_nil, by rw [ht]; exact hPw⟩, hS.F ht⟩) hS.2.2 hd
end
end
section
def catA (v : AV) : Nat := match v with
  | .inr (.inl _) => 2
  | _ => 1
theorem catA_cv {X : XT} (l : List AV) : ((l.map (cv X)).map fun v => v.category).sum = (l.map catA).sum := by
  induction l with
  | nil => rfl
  | cons a r ih =>
    simp only [List.map_cons, List.sum_cons, ih]
    congr 1
    rcases a with x | x | q <;> rfl
/-- n arguments, the receiver, the rest -/
def splV (n : Nat) (st : List AV) : Option (List AV × Nat × Nat × List AV) := match st.drop n with
  | .inr (.inr (t, h)) :: r => if n ≤ st.length then some ((st.take n).reverse, t, h, r) else none
  | _ => none
theorem splV_eq {n : Nat} {st As rest : List AV} {t h : Nat} (e : splV n st = some (As, t, h, rest)) : st = As.reverse ++ vR t h :: rest ∧ As.length = n := by
  unfold splV at e
  split at e
  · rename_i t0 h0 r0 hd
    split at e
    · rename_i hn
      cases e
      refine ⟨?_, ?_⟩
      · rw [List.reverse_reverse, ← hd, List.take_append_drop]
      · rw [List.length_reverse, List.length_take]; omega
    · cases e
  · cases e
def splS (n : Nat) (st : List AV) : Option (List AV × List AV) := if n ≤ st.length then some ((st.take n).reverse, st.drop n) else none
theorem splS_eq {n : Nat} {st As rest : List AV} (e : splS n st = some (As, rest)) : st = As.reverse ++ rest ∧ As.length = n := by
  unfold splS at e
  split at e
  · rename_i hn
    cases e
    refine ⟨?_, ?_⟩
    · rw [List.reverse_reverse, List.take_append_drop]
    · rw [List.length_reverse, List.length_take]; omega
  · cases e
def CVok (own idx : Nat) (μ : MI) (n : Nat) : Prop := GoodIn GT (wsV (Rn own) idx μ.1.cls μ.1 (wsM μ)) ∧ (μ.1.cls ≠ "java/lang/invoke/MethodHandle" ∧ μ.1.cls ≠ "java/lang/invoke/VarHandle" ∧ (parseMethodDescriptor μ.1.desc).map (fun d => d.parameters.length) = some n)
def CSok (own idx : Nat) (μ : MI) (n : Nat) : Prop := GoodIn GT (va_wsS (Rn own) idx μ.1 (wsM μ)) ∧ (μ.1.cls ≠ "java/lang/invoke/MethodHandle" ∧ μ.1.cls ≠ "java/lang/invoke/VarHandle" ∧ (parseMethodDescriptor μ.1.desc).map (fun d => d.parameters.length) = some n)
def CNok (own idx : Nat) (μ : MI) (n : Nat) (host : String) : Prop := GoodIn GT ([.static μ.1, .initialized μ.1.cls] ++ wsM μ) ∧ (Rn own, idx, μ.1, host) ∈ NWS ∧ (μ.1.cls ≠ "java/lang/invoke/MethodHandle" ∧ μ.1.cls ≠ "java/lang/invoke/VarHandle" ∧ (parseMethodDescriptor μ.1.desc).map (fun d => d.parameters.length) = some n)
theorem GT_list {ws : List Cond} (ps : List Nat) (h : ws = ps.filterMap (fun i => lw_tbl[i]?)) (g : ws.all goodWord = true) : GoodIn GT ws := by
  intro w hw
  have g1 := List.all_eq_true.mp g w hw
  rw [h] at hw
  obtain ⟨i, -, hi⟩ := List.mem_filterMap.mp hw
  exact ⟨GT_in i hi g1, good_of_word g1⟩
theorem GT_app {ws : List Cond} (h : GoodIn GT ws) : GoodIn GT (ws ++ GT) := fun w hw => (List.mem_append.mp hw).elim (h w) (GT_good w)
theorem CV_of {own idx : Nat} {μ : MI} {n : Nat} (ps : List Nat) (h : ([.methodLink (Rn own) idx μ.1, .instanceMethod μ.1, .selects μ.1.cls μ.1 μ.1, .initialized μ.1.cls, .code μ.1 μ.2.1 μ.2.2.1 μ.2.2.2.1] : List Cond) = ps.filterMap (fun i => lw_tbl[i]?)) (g : ([.methodLink (Rn own) idx μ.1, .instanceMethod μ.1, .selects μ.1.cls μ.1 μ.1, .initialized μ.1.cls, .code μ.1 μ.2.1 μ.2.2.1 μ.2.2.2.1] : List Cond).all goodWord = true)
    (d : μ.1.cls ≠ "java/lang/invoke/MethodHandle" ∧ μ.1.cls ≠ "java/lang/invoke/VarHandle" ∧ (parseMethodDescriptor μ.1.desc).map (fun d => d.parameters.length) = some n) : CVok own idx μ n := ⟨GT_app (GT_list ps h g), d⟩
theorem CS_of {own idx : Nat} {μ : MI} {n : Nat} (ps : List Nat) (h : ([.methodLink (Rn own) idx μ.1, .static μ.1, .initialized μ.1.cls, .code μ.1 μ.2.1 μ.2.2.1 μ.2.2.2.1] : List Cond) = ps.filterMap (fun i => lw_tbl[i]?)) (g : ([.methodLink (Rn own) idx μ.1, .static μ.1, .initialized μ.1.cls, .code μ.1 μ.2.1 μ.2.2.1 μ.2.2.2.1] : List Cond).all goodWord = true)
    (d : μ.1.cls ≠ "java/lang/invoke/MethodHandle" ∧ μ.1.cls ≠ "java/lang/invoke/VarHandle" ∧ (parseMethodDescriptor μ.1.desc).map (fun d => d.parameters.length) = some n) : CSok own idx μ n := ⟨GT_app (GT_list ps h g), d⟩
theorem CN_of {own idx : Nat} {μ : MI} {n : Nat} {host : String} (ps : List Nat) (h : ([.static μ.1, .initialized μ.1.cls, .code μ.1 μ.2.1 μ.2.2.1 μ.2.2.2.1] : List Cond) = ps.filterMap (fun i => lw_tbl[i]?)) (g : ([.static μ.1, .initialized μ.1.cls, .code μ.1 μ.2.1 μ.2.2.1 μ.2.2.2.1] : List Cond).all goodWord = true) (hn : (Rn own, idx, μ.1, host) ∈ NWS)
    (d : μ.1.cls ≠ "java/lang/invoke/MethodHandle" ∧ μ.1.cls ≠ "java/lang/invoke/VarHandle" ∧ (parseMethodDescriptor μ.1.desc).map (fun d => d.parameters.length) = some n) : CNok own idx μ n host := ⟨GT_app (GT_list ps h g), hn, d⟩
theorem PreM_blind {X : XT} {m : Mem} {vs : List AV} : FrameBlind (PreM X m vs) := fun a U g mk q => by
  obtain ⟨q0, q1, q2, q3, q4⟩ := q
  exact ⟨q0, q1, va_K.moved (u := U) (U := U.calling g mk a) (Vm.Alike.refl U.vm) q2, KS.go (s := U) (U := U.calling g mk a) q3 (State.WarmedH.refl U) q4 (fun _ _ _ => rfl), q4⟩
section
variable {p : Program} {l : Launch} {e : Env} {R : Room} {s : State} {mid : MethodId} {args : Array Value} {below : List Frame} {meth : Method} {c : Code} {H : Heap} {locs : List Loc} {cells slots : Nat} {Z : State → Prop}
theorem aw_after {X : XT} {Q : Option AV → Mem → Prop} {a : Array Value} {pc : Nat} {la : Array Slot} {st0 rest : List Value} (hr : va_Run p l e R s mid args below meth c H locs cells slots 0 0 (F0 mid pc la st0) rest (PostM X Q a) (xA X)) (hS : va_S (xA X) s.heap H locs)
    (kk : ∀ (r : Option AV) (m' : Mem) (H1 : Heap) (locs1 : List Loc), Q r m' → okl X r.toList → va_P (xD X) vwCl (wsOf X m') H1 → va_S (xA X) s.heap H1 locs1 → W p l e R s mid args below meth c H1 locs1 cells slots Z (F0 mid (pc + 3) la (r.toList.map (cv X) ++ rest))) : W p l e R s mid args below meth c H locs cells slots Z (F0 mid pc la st0) := by
  intro T hT Xs
  obtain ⟨v, st₀, t, T', L, h0, X', hL, e1, e2, ⟨⟨r, m', hv, hq, hor, hp⟩, hz, hk⟩, st⟩ := hr T hT Xs
  cases hv
  rw [h0] at hz hk
  obtain ⟨t2, a1, b1⟩ := kk r m' T'.heap (locs ++ L) hq hor (by rw [e1]; exact hp)
    ⟨Nat.le_trans hS.1 (by rw [e1]; exact hz), fun q h1 h2 => by rw [e1, hk q (Nat.lt_of_lt_of_le h1 hS.1) h2]; exact hS.2.1 q h1 h2, fun q hq => by
      rcases List.mem_append.mp hq with h | h
      · exact hS.2.2 q h
      · exact hL q h⟩ T' rfl X'
  refine ⟨t2, st t2 ?_, b1⟩
  rw [show (r.map (cv X)).toList = r.toList.map (cv X) by cases r <;> rfl]
  exact a1
end
theorem vw_n {t : Nat} (h : t < 12) : ∃ q : vw_C, vwCl[t]? = some q ∧ q.1 = Rn t := by
  match t, h with
  | 0, _ => exact ⟨_, rfl, rfl⟩
  | 1, _ => exact ⟨_, rfl, rfl⟩
  | 2, _ => exact ⟨_, rfl, rfl⟩
  | 3, _ => exact ⟨_, rfl, rfl⟩
  | 4, _ => exact ⟨_, rfl, rfl⟩
  | 5, _ => exact ⟨_, rfl, rfl⟩
  | 6, _ => exact ⟨_, rfl, rfl⟩
  | 7, _ => exact ⟨_, rfl, rfl⟩
  | 8, _ => exact ⟨_, rfl, rfl⟩
  | 9, _ => exact ⟨_, rfl, rfl⟩
  | 10, _ => exact ⟨_, rfl, rfl⟩
  | 11, _ => exact ⟨_, rfl, rfl⟩
  | k + 12, h => exact absurd h (by omega)
section
variable {G : GG} {pc np tg : Nat} {lit : Int32} {ls st rest As : List AV} {m : Mem} {idx n d' : Nat} {μ : MI} {Q : Option AV → Mem → Prop}
theorem aw_pre {X : XT} {s U : State} {H : Heap} {locs : List Loc} {args : Array Value} {vs : List AV} (hK : va_K (xD X) vwCl (tysOf X) s) (hKS : KS X s s.heap) (hbz : xb X ≤ s.heap.size) (hPw : va_P (xD X) vwCl (wsOf X m) H) (hS : va_S (xA X) s.heap H locs) (hU : U.heap = H) (hW : s.WarmedH U.vm) : PreM X m vs (vs.map (cv X)).toArray U := by
  refine ⟨rfl, by rw [hU]; exact hPw, va_K.moved hW.alike hK, ?_, ?_⟩
  · rw [hU]
    exact KS.go hKS hW hbz (fun a h1 h2 => hS.2.1 a h1 h2)
  · rw [hU]
    exact Nat.le_trans hbz hS.1
theorem AW.callV {t h : Nat} (hf : G.2.2.2.2.2.1.2.2.2.2.2.lookup pc = some (.invokevirtual idx, np, tg, lit)) (hs : splV n st = some (As, t, h, rest)) (hk : CVok G.2.2.2.2.2.1.2.2.2.2.1 idx μ n) (ht : 0 < t ∧ t < 13 ∧ Rn (t - 1) = μ.1.cls) (hR : d' + 1 ≤ G.2.2.1.frames ∧ 8 + (μ.2.2.1 + 11) + 60 * d' ≤ G.2.2.1.locals) (hr8 : (rest.map catA).sum ≤ 8)
    (hM : Meth G.1 G.2.1 d' μ (vR t h :: As) m Q) (kk : ∀ (r : Option AV) (m' : Mem), Q r m' → AW G np ls (r.toList ++ rest) m') : AW G pc ls st m := by
  obtain ⟨rfl, hlen⟩ := splV_eq hs
  intro hl hol hos p e s mid args below meth co C H locs la hPw hS hL
  obtain ⟨hx, hb, -, hml, hown, hts, hlk, hK, hKS, hN, hbz, hc1, hc2, hok⟩ := id C
  obtain ⟨hd, hn⟩ := fetch_1 hok hf rfl
  have hn : np = pc + 3 := hn
  subst hn
  have ho1 : okl G.2.1 As := fun v hv => hos v (List.mem_append_left _ (List.mem_reverse.mpr hv))
  have ho2 := okl_cons.mp (fun v hv => hos v (List.mem_append_right _ hv) : okl G.2.1 (vR t h :: rest))
  have hxt : isX t = false := isX_lt (by omega)
  obtain ⟨hh, hlay⟩ := okr_cell ho2.1 (by omega) hxt
  have he : (wsOf G.2.1 m)[h]? = some (xb G.2.1 + h, .inr (t - 1, fsOf G.2.1 m h t)) := by rw [ws_get _ _ hh, cel_o hlay (by omega)]
  obtain ⟨qc, hqc, hqn⟩ := vw_n (t := t - 1) (by omega)
  rw [ht.2.2] at hqn
  have hrc := va_recv hK hPw hqc he
  rw [hqn] at hrc
  have hM' := hM hN (okl_cons.mpr ⟨ho2.1, ho1⟩)
  have haof : cv G.2.1 (vR t h) = .ref (xb G.2.1 + h) := by
    show Value.ref (aof _ _ _) = _
    rw [aof_in hxt]
  have hvs : ((vR t h :: As).map (cv G.2.1)).toArray = (Value.ref (xb G.2.1 + h) :: As.map (cv G.2.1)).toArray := by rw [List.map_cons, haof]
  refine aw_after (rest := rest.map (cv G.2.1)) (va_runV (As := As.map (cv G.2.1)) (n := n) (b := xb G.2.1 + h) ⟨hx, hb, hml, hown, hts⟩ hM' (cwV n hts hk.1 rfl rfl rfl ⟨rfl, hk.2⟩ hR) ⟨PreM_blind, hrc, fun U hU hW => ?_⟩ rfl (by rw [List.length_map]; exact hlen) (hL.1.trans hl) ?_ (lv_room (by rw [catA_cv]; exact hr8)) hd ⟨hc1, hc2⟩) hS (fun r m' H1 locs1 hQ hor hP1 hS1 => ?_)
  · rw [← hvs]
    exact aw_pre (args := args) hK hKS hbz hPw hS hU hW
  · show (As.reverse ++ vR t h :: rest).map (cv G.2.1) = _
    rw [List.map_append, List.map_cons, haof, List.map_reverse]
  · have k1 := kk r m' hQ hl hol (fun v hv => (List.mem_append.mp hv).elim (hor v) (ho2.2 v)) p e s mid args below meth co C H1 locs1 la hP1 hS1 hL
    rw [List.map_append] at k1
    exact k1
theorem AW.callS (hf : G.2.2.2.2.2.1.2.2.2.2.2.lookup pc = some (.invokestatic idx, np, tg, lit)) (hs : splS n st = some (As, rest)) (hk : CSok G.2.2.2.2.2.1.2.2.2.2.1 idx μ n) (hR : d' + 1 ≤ G.2.2.1.frames ∧ 8 + (μ.2.2.1 + 11) + 60 * d' ≤ G.2.2.1.locals) (hr8 : (rest.map catA).sum ≤ 8)
    (hM : Meth G.1 G.2.1 d' μ As m Q) (kk : ∀ (r : Option AV) (m' : Mem), Q r m' → AW G np ls (r.toList ++ rest) m') : AW G pc ls st m := by
  obtain ⟨rfl, hlen⟩ := splS_eq hs
  intro hl hol hos p e s mid args below meth co C H locs la hPw hS hL
  obtain ⟨hx, hb, -, hml, hown, hts, hlk, hK, hKS, hN, hbz, hc1, hc2, hok⟩ := id C
  obtain ⟨hd, hn⟩ := fetch_1 hok hf rfl
  have hn : np = pc + 3 := hn
  subst hn
  have ho1 : okl G.2.1 As := fun v hv => hos v (List.mem_append_left _ (List.mem_reverse.mpr hv))
  have ho2 : okl G.2.1 rest := fun v hv => hos v (List.mem_append_right _ hv)
  have hM' := hM hN ho1
  refine aw_after (rest := rest.map (cv G.2.1)) (va_runS (As := As.map (cv G.2.1)) (n := n) ⟨hx, hb, hml, hown, hts⟩ hM' (va_cwS n hts hk.1 rfl rfl rfl hk.2 hR) ⟨PreM_blind, fun U hU hW => ?_⟩ rfl (by rw [List.length_map]; exact hlen) (hL.1.trans hl) ?_ (lv_room (by rw [catA_cv]; exact hr8)) hd ⟨hc1, hc2⟩) hS (fun r m' H1 locs1 hQ hor hP1 hS1 => ?_)
  · exact aw_pre (args := args) hK hKS hbz hPw hS hU hW
  · show (As.reverse ++ rest).map (cv G.2.1) = _
    rw [List.map_append, List.map_reverse]
  · have k1 := kk r m' hQ hl hol (fun v hv => (List.mem_append.mp hv).elim (hor v) (ho2 v)) p e s mid args below meth co C H1 locs1 la hP1 hS1 hL
    rw [List.map_append] at k1
    exact k1
theorem AW.callN {host : String} (hf : G.2.2.2.2.2.1.2.2.2.2.2.lookup pc = some (.invokestatic idx, np, tg, lit)) (hs : splS n st = some (As, rest)) (hk : CNok G.2.2.2.2.2.1.2.2.2.2.1 idx μ n host) (hR : d' + 1 ≤ G.2.2.1.frames ∧ 8 + (μ.2.2.1 + 11) + 60 * d' ≤ G.2.2.1.locals) (hr8 : (rest.map catA).sum ≤ 8)
    (hM : Meth G.1 G.2.1 d' μ As m Q) (kk : ∀ (r : Option AV) (m' : Mem), Q r m' → AW G np ls (r.toList ++ rest) m') : AW G pc ls st m := by
  obtain ⟨rfl, hlen⟩ := splS_eq hs
  intro hl hol hos p e s mid args below meth co C H locs la hPw hS hL
  obtain ⟨hx, hb, -, hml, hown, hts, hlk, hK, hKS, hN, hbz, hc1, hc2, hok⟩ := id C
  obtain ⟨hd, hn⟩ := fetch_1 hok hf rfl
  have hn : np = pc + 3 := hn
  subst hn
  have ho1 : okl G.2.1 As := fun v hv => hos v (List.mem_append_left _ (List.mem_reverse.mpr hv))
  have ho2 : okl G.2.1 rest := fun v hv => hos v (List.mem_append_right _ hv)
  have hM' := hM hN ho1
  have hnw : va_Nw (.methodLinkNest (Rn G.2.2.2.2.2.1.2.2.2.2.1) idx μ.1 host) s := hKS.1 _ hk.2.1
  have hg : GoodIn GT (wsM μ) := fun w hw => hk.1 w (List.mem_append_right _ hw)
  refine aw_after (rest := rest.map (cv G.2.1)) (va_runSN (As := As.map (cv G.2.1)) (n := n) (host := host) ⟨hx, hb, hml, hown, hts⟩ hM' ⟨va_cnB n hts hg rfl rfl rfl hnw (hts _ (hk.1 _ (by simp)).1) hk.2.2 hR, hts _ (hk.1 _ (by simp)).1, trivial⟩ ⟨PreM_blind, fun U hU hW => ?_⟩ rfl (by rw [List.length_map]; exact hlen) (hL.1.trans hl) ?_ (lv_room (by rw [catA_cv]; exact hr8)) hd ⟨hc1, hc2⟩) hS (fun r m' H1 locs1 hQ hor hP1 hS1 => ?_)
  · exact aw_pre (args := args) hK hKS hbz hPw hS hU hW
  · show (As.reverse ++ rest).map (cv G.2.1) = _
    rw [List.map_append, List.map_reverse]
  · have k1 := kk r m' hQ hl hol (fun v hv => (List.mem_append.mp hv).elim (hor v) (ho2 v)) p e s mid args below meth co C H1 locs1 la hP1 hS1 hL
    rw [List.map_append] at k1
    exact k1
end
end
