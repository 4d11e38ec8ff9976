section
-- ===== PART A: goes FIRST, ahead of the names: the tables' words, and 'selects' of the private methods out of them =====
/-- a private method of a class that the tables say can be made, by its rows of tables_1 -/
def lw_okq (q : MethodName × Nat) : Prop := (q.1.cls ≠ "java/lang/invoke/MethodHandle" ∧ q.1.cls ≠ "java/lang/invoke/VarHandle") ∧ Cond.instantiable q.1.cls q.2 ∈ tables_1 ∧ Cond.privateMethod q.1 ∈ tables_1 ∧ Cond.instanceMethod q.1 ∈ tables_1
theorem lw_p0 : lw_okq (⟨"LessonMaker", "refuse", "(I)I"⟩, 14) := ⟨⟨by decide +kernel, by decide +kernel⟩, List.mem_of_getElem? (i := 29) (by decide +kernel), List.mem_of_getElem? (i := 425) (by decide +kernel), List.mem_of_getElem? (i := 426) (by decide +kernel)⟩
theorem lw_p1 : lw_okq (⟨"LessonMaker", "feedNumber", "(I)V"⟩, 14) := ⟨⟨by decide +kernel, by decide +kernel⟩, List.mem_of_getElem? (i := 29) (by decide +kernel), List.mem_of_getElem? (i := 429) (by decide +kernel), List.mem_of_getElem? (i := 430) (by decide +kernel)⟩
theorem lw_p2 : lw_okq (⟨"LessonMaker", "accept", "(I)I"⟩, 14) := ⟨⟨by decide +kernel, by decide +kernel⟩, List.mem_of_getElem? (i := 29) (by decide +kernel), List.mem_of_getElem? (i := 433) (by decide +kernel), List.mem_of_getElem? (i := 434) (by decide +kernel)⟩
theorem lw_p3 : lw_okq (⟨"LessonMaker$Tokens", "widthAt", "(I)I"⟩, 6) := ⟨⟨by decide +kernel, by decide +kernel⟩, List.mem_of_getElem? (i := 43) (by decide +kernel), List.mem_of_getElem? (i := 466) (by decide +kernel), List.mem_of_getElem? (i := 467) (by decide +kernel)⟩
theorem lw_p4 : lw_okq (⟨"LessonMaker$Tokens", "isLetter", "(I)Z"⟩, 6) := ⟨⟨by decide +kernel, by decide +kernel⟩, List.mem_of_getElem? (i := 43) (by decide +kernel), List.mem_of_getElem? (i := 470) (by decide +kernel), List.mem_of_getElem? (i := 471) (by decide +kernel)⟩
theorem lw_p5 : lw_okq (⟨"LessonMaker$Tokens", "textAt", "(I)I"⟩, 6) := ⟨⟨by decide +kernel, by decide +kernel⟩, List.mem_of_getElem? (i := 43) (by decide +kernel), List.mem_of_getElem? (i := 474) (by decide +kernel), List.mem_of_getElem? (i := 475) (by decide +kernel)⟩
theorem lw_p6 : lw_okq (⟨"LessonMaker$Tokens", "isDigit", "(I)Z"⟩, 6) := ⟨⟨by decide +kernel, by decide +kernel⟩, List.mem_of_getElem? (i := 43) (by decide +kernel), List.mem_of_getElem? (i := 478) (by decide +kernel), List.mem_of_getElem? (i := 479) (by decide +kernel)⟩
theorem lw_p7 : lw_okq (⟨"LessonMaker$Tokens", "add", "(III)V"⟩, 6) := ⟨⟨by decide +kernel, by decide +kernel⟩, List.mem_of_getElem? (i := 43) (by decide +kernel), List.mem_of_getElem? (i := 485) (by decide +kernel), List.mem_of_getElem? (i := 486) (by decide +kernel)⟩
theorem lw_p8 : lw_okq (⟨"LessonMaker$Tokens", "kindOf", "(II)I"⟩, 6) := ⟨⟨by decide +kernel, by decide +kernel⟩, List.mem_of_getElem? (i := 43) (by decide +kernel), List.mem_of_getElem? (i := 489) (by decide +kernel), List.mem_of_getElem? (i := 490) (by decide +kernel)⟩
theorem lw_p9 : lw_okq (⟨"LessonMaker$Tokens", "wordKind", "(II)I"⟩, 6) := ⟨⟨by decide +kernel, by decide +kernel⟩, List.mem_of_getElem? (i := 43) (by decide +kernel), List.mem_of_getElem? (i := 493) (by decide +kernel), List.mem_of_getElem? (i := 494) (by decide +kernel)⟩
theorem lw_p10 : lw_okq (⟨"LessonMaker$Tokens", "spells", "(IILjava/lang/String;)Z"⟩, 6) := ⟨⟨by decide +kernel, by decide +kernel⟩, List.mem_of_getElem? (i := 43) (by decide +kernel), List.mem_of_getElem? (i := 498) (by decide +kernel), List.mem_of_getElem? (i := 499) (by decide +kernel)⟩
theorem lw_p11 : lw_okq (⟨"LessonMaker$Reader", "readFunction", "()V"⟩, 12) := ⟨⟨by decide +kernel, by decide +kernel⟩, List.mem_of_getElem? (i := 206) (by decide +kernel), List.mem_of_getElem? (i := 555) (by decide +kernel), List.mem_of_getElem? (i := 556) (by decide +kernel)⟩
theorem lw_p12 : lw_okq (⟨"LessonMaker$Reader", "kind", "()I"⟩, 12) := ⟨⟨by decide +kernel, by decide +kernel⟩, List.mem_of_getElem? (i := 206) (by decide +kernel), List.mem_of_getElem? (i := 559) (by decide +kernel), List.mem_of_getElem? (i := 560) (by decide +kernel)⟩
theorem lw_p13 : lw_okq (⟨"LessonMaker$Reader", "fail", "(I)V"⟩, 12) := ⟨⟨by decide +kernel, by decide +kernel⟩, List.mem_of_getElem? (i := 206) (by decide +kernel), List.mem_of_getElem? (i := 563) (by decide +kernel), List.mem_of_getElem? (i := 564) (by decide +kernel)⟩
theorem lw_p14 : lw_okq (⟨"LessonMaker$Reader", "readName", "(LLessonMaker$Function;)V"⟩, 12) := ⟨⟨by decide +kernel, by decide +kernel⟩, List.mem_of_getElem? (i := 206) (by decide +kernel), List.mem_of_getElem? (i := 571) (by decide +kernel), List.mem_of_getElem? (i := 572) (by decide +kernel)⟩
theorem lw_p15 : lw_okq (⟨"LessonMaker$Tokens", "has", "(I)Z"⟩, 6) := ⟨⟨by decide +kernel, by decide +kernel⟩, List.mem_of_getElem? (i := 43) (by decide +kernel), List.mem_of_getElem? (i := 583) (by decide +kernel), List.mem_of_getElem? (i := 584) (by decide +kernel)⟩
def lw_privs_1 : List (MethodName × Nat) := [(⟨"LessonMaker", "refuse", "(I)I"⟩, 14), (⟨"LessonMaker", "feedNumber", "(I)V"⟩, 14), (⟨"LessonMaker", "accept", "(I)I"⟩, 14), (⟨"LessonMaker$Tokens", "widthAt", "(I)I"⟩, 6), (⟨"LessonMaker$Tokens", "isLetter", "(I)Z"⟩, 6), (⟨"LessonMaker$Tokens", "textAt", "(I)I"⟩, 6), (⟨"LessonMaker$Tokens", "isDigit", "(I)Z"⟩, 6), (⟨"LessonMaker$Tokens", "add", "(III)V"⟩, 6), (⟨"LessonMaker$Tokens", "kindOf", "(II)I"⟩, 6), (⟨"LessonMaker$Tokens", "wordKind", "(II)I"⟩, 6), (⟨"LessonMaker$Tokens", "spells", "(IILjava/lang/String;)Z"⟩, 6), (⟨"LessonMaker$Reader", "readFunction", "()V"⟩, 12), (⟨"LessonMaker$Reader", "kind", "()I"⟩, 12), (⟨"LessonMaker$Reader", "fail", "(I)V"⟩, 12), (⟨"LessonMaker$Reader", "readName", "(LLessonMaker$Function;)V"⟩, 12), (⟨"LessonMaker$Tokens", "has", "(I)Z"⟩, 6)]
theorem lw_r1 : ∀ q ∈ lw_privs_1, lw_okq q := List.forall_mem_cons.mpr ⟨lw_p0, List.forall_mem_cons.mpr ⟨lw_p1, List.forall_mem_cons.mpr ⟨lw_p2, List.forall_mem_cons.mpr ⟨lw_p3, List.forall_mem_cons.mpr ⟨lw_p4, List.forall_mem_cons.mpr ⟨lw_p5, List.forall_mem_cons.mpr ⟨lw_p6, List.forall_mem_cons.mpr ⟨lw_p7, List.forall_mem_cons.mpr ⟨lw_p8, List.forall_mem_cons.mpr ⟨lw_p9, List.forall_mem_cons.mpr ⟨lw_p10, List.forall_mem_cons.mpr ⟨lw_p11, List.forall_mem_cons.mpr ⟨lw_p12, List.forall_mem_cons.mpr ⟨lw_p13, List.forall_mem_cons.mpr ⟨lw_p14, List.forall_mem_cons.mpr ⟨lw_p15, fun _ h => absurd h List.not_mem_nil⟩⟩⟩⟩⟩⟩⟩⟩⟩⟩⟩⟩⟩⟩⟩⟩
theorem lw_p16 : lw_okq (⟨"LessonMaker$Reader", "take", "(I)V"⟩, 12) := ⟨⟨by decide +kernel, by decide +kernel⟩, List.mem_of_getElem? (i := 206) (by decide +kernel), List.mem_of_getElem? (i := 591) (by decide +kernel), List.mem_of_getElem? (i := 592) (by decide +kernel)⟩
theorem lw_p17 : lw_okq (⟨"LessonMaker$Reader", "readPlaces", "(LLessonMaker$Function;)V"⟩, 12) := ⟨⟨by decide +kernel, by decide +kernel⟩, List.mem_of_getElem? (i := 206) (by decide +kernel), List.mem_of_getElem? (i := 595) (by decide +kernel), List.mem_of_getElem? (i := 596) (by decide +kernel)⟩
theorem lw_p18 : lw_okq (⟨"LessonMaker$Reader", "readPlace", "(LLessonMaker$Function;)V"⟩, 12) := ⟨⟨by decide +kernel, by decide +kernel⟩, List.mem_of_getElem? (i := 206) (by decide +kernel), List.mem_of_getElem? (i := 599) (by decide +kernel), List.mem_of_getElem? (i := 600) (by decide +kernel)⟩
theorem lw_p19 : lw_okq (⟨"LessonMaker$Reader", "readBlock", "(I)V"⟩, 12) := ⟨⟨by decide +kernel, by decide +kernel⟩, List.mem_of_getElem? (i := 206) (by decide +kernel), List.mem_of_getElem? (i := 615) (by decide +kernel), List.mem_of_getElem? (i := 616) (by decide +kernel)⟩
theorem lw_p20 : lw_okq (⟨"LessonMaker$Reader", "readLine", "(I)V"⟩, 12) := ⟨⟨by decide +kernel, by decide +kernel⟩, List.mem_of_getElem? (i := 206) (by decide +kernel), List.mem_of_getElem? (i := 619) (by decide +kernel), List.mem_of_getElem? (i := 620) (by decide +kernel)⟩
theorem lw_p21 : lw_okq (⟨"LessonMaker$Reader", "readSum", "(I)V"⟩, 12) := ⟨⟨by decide +kernel, by decide +kernel⟩, List.mem_of_getElem? (i := 206) (by decide +kernel), List.mem_of_getElem? (i := 638) (by decide +kernel), List.mem_of_getElem? (i := 639) (by decide +kernel)⟩
theorem lw_p22 : lw_okq (⟨"LessonMaker$Reader", "readTerm", "(I)V"⟩, 12) := ⟨⟨by decide +kernel, by decide +kernel⟩, List.mem_of_getElem? (i := 206) (by decide +kernel), List.mem_of_getElem? (i := 642) (by decide +kernel), List.mem_of_getElem? (i := 643) (by decide +kernel)⟩
theorem lw_p23 : lw_okq (⟨"LessonMaker$Reader", "readPart", "(I)V"⟩, 12) := ⟨⟨by decide +kernel, by decide +kernel⟩, List.mem_of_getElem? (i := 206) (by decide +kernel), List.mem_of_getElem? (i := 646) (by decide +kernel), List.mem_of_getElem? (i := 647) (by decide +kernel)⟩
theorem lw_p24 : lw_okq (⟨"LessonMaker$Reader", "openBracket", "(I)V"⟩, 12) := ⟨⟨by decide +kernel, by decide +kernel⟩, List.mem_of_getElem? (i := 206) (by decide +kernel), List.mem_of_getElem? (i := 654) (by decide +kernel), List.mem_of_getElem? (i := 655) (by decide +kernel)⟩
theorem lw_p25 : lw_okq (⟨"LessonMaker$Reader", "readSumWithin", "(I)V"⟩, 12) := ⟨⟨by decide +kernel, by decide +kernel⟩, List.mem_of_getElem? (i := 206) (by decide +kernel), List.mem_of_getElem? (i := 658) (by decide +kernel), List.mem_of_getElem? (i := 659) (by decide +kernel)⟩
theorem lw_p26 : lw_okq (⟨"LessonMaker$Reader", "readCall", "(I)V"⟩, 12) := ⟨⟨by decide +kernel, by decide +kernel⟩, List.mem_of_getElem? (i := 206) (by decide +kernel), List.mem_of_getElem? (i := 662) (by decide +kernel), List.mem_of_getElem? (i := 663) (by decide +kernel)⟩
theorem lw_p27 : lw_okq (⟨"LessonMaker$Reader", "addCall", "(I)I"⟩, 12) := ⟨⟨by decide +kernel, by decide +kernel⟩, List.mem_of_getElem? (i := 206) (by decide +kernel), List.mem_of_getElem? (i := 666) (by decide +kernel), List.mem_of_getElem? (i := 667) (by decide +kernel)⟩
theorem lw_p28 : lw_okq (⟨"LessonMaker$Reader", "readSums", "(I)I"⟩, 12) := ⟨⟨by decide +kernel, by decide +kernel⟩, List.mem_of_getElem? (i := 206) (by decide +kernel), List.mem_of_getElem? (i := 670) (by decide +kernel), List.mem_of_getElem? (i := 671) (by decide +kernel)⟩
theorem lw_p29 : lw_okq (⟨"LessonMaker$Reader", "readIf", "(II)V"⟩, 12) := ⟨⟨by decide +kernel, by decide +kernel⟩, List.mem_of_getElem? (i := 206) (by decide +kernel), List.mem_of_getElem? (i := 677) (by decide +kernel), List.mem_of_getElem? (i := 678) (by decide +kernel)⟩
theorem lw_p30 : lw_okq (⟨"LessonMaker$Reader", "readTest", "()V"⟩, 12) := ⟨⟨by decide +kernel, by decide +kernel⟩, List.mem_of_getElem? (i := 206) (by decide +kernel), List.mem_of_getElem? (i := 681) (by decide +kernel), List.mem_of_getElem? (i := 682) (by decide +kernel)⟩
theorem lw_p31 : lw_okq (⟨"LessonMaker$Reader", "readWhile", "(II)V"⟩, 12) := ⟨⟨by decide +kernel, by decide +kernel⟩, List.mem_of_getElem? (i := 206) (by decide +kernel), List.mem_of_getElem? (i := 693) (by decide +kernel), List.mem_of_getElem? (i := 694) (by decide +kernel)⟩
def lw_privs_2 : List (MethodName × Nat) := [(⟨"LessonMaker$Reader", "take", "(I)V"⟩, 12), (⟨"LessonMaker$Reader", "readPlaces", "(LLessonMaker$Function;)V"⟩, 12), (⟨"LessonMaker$Reader", "readPlace", "(LLessonMaker$Function;)V"⟩, 12), (⟨"LessonMaker$Reader", "readBlock", "(I)V"⟩, 12), (⟨"LessonMaker$Reader", "readLine", "(I)V"⟩, 12), (⟨"LessonMaker$Reader", "readSum", "(I)V"⟩, 12), (⟨"LessonMaker$Reader", "readTerm", "(I)V"⟩, 12), (⟨"LessonMaker$Reader", "readPart", "(I)V"⟩, 12), (⟨"LessonMaker$Reader", "openBracket", "(I)V"⟩, 12), (⟨"LessonMaker$Reader", "readSumWithin", "(I)V"⟩, 12), (⟨"LessonMaker$Reader", "readCall", "(I)V"⟩, 12), (⟨"LessonMaker$Reader", "addCall", "(I)I"⟩, 12), (⟨"LessonMaker$Reader", "readSums", "(I)I"⟩, 12), (⟨"LessonMaker$Reader", "readIf", "(II)V"⟩, 12), (⟨"LessonMaker$Reader", "readTest", "()V"⟩, 12), (⟨"LessonMaker$Reader", "readWhile", "(II)V"⟩, 12)]
theorem lw_r2 : ∀ q ∈ lw_privs_2, lw_okq q := List.forall_mem_cons.mpr ⟨lw_p16, List.forall_mem_cons.mpr ⟨lw_p17, List.forall_mem_cons.mpr ⟨lw_p18, List.forall_mem_cons.mpr ⟨lw_p19, List.forall_mem_cons.mpr ⟨lw_p20, List.forall_mem_cons.mpr ⟨lw_p21, List.forall_mem_cons.mpr ⟨lw_p22, List.forall_mem_cons.mpr ⟨lw_p23, List.forall_mem_cons.mpr ⟨lw_p24, List.forall_mem_cons.mpr ⟨lw_p25, List.forall_mem_cons.mpr ⟨lw_p26, List.forall_mem_cons.mpr ⟨lw_p27, List.forall_mem_cons.mpr ⟨lw_p28, List.forall_mem_cons.mpr ⟨lw_p29, List.forall_mem_cons.mpr ⟨lw_p30, List.forall_mem_cons.mpr ⟨lw_p31, fun _ h => absurd h List.not_mem_nil⟩⟩⟩⟩⟩⟩⟩⟩⟩⟩⟩⟩⟩⟩⟩⟩
theorem lw_p32 : lw_okq (⟨"LessonMaker$Reader", "joinCalls", "()V"⟩, 12) := ⟨⟨by decide +kernel, by decide +kernel⟩, List.mem_of_getElem? (i := 206) (by decide +kernel), List.mem_of_getElem? (i := 697) (by decide +kernel), List.mem_of_getElem? (i := 698) (by decide +kernel)⟩
theorem lw_p33 : lw_okq (⟨"LessonMaker", "turnToSpare", "()V"⟩, 14) := ⟨⟨by decide +kernel, by decide +kernel⟩, List.mem_of_getElem? (i := 29) (by decide +kernel), List.mem_of_getElem? (i := 705) (by decide +kernel), List.mem_of_getElem? (i := 706) (by decide +kernel)⟩
theorem lw_p34 : lw_okq (⟨"LessonMaker$Growth", "findReaches", "(LLessonMaker$Program;)V"⟩, 3) := ⟨⟨by decide +kernel, by decide +kernel⟩, List.mem_of_getElem? (i := 361) (by decide +kernel), List.mem_of_getElem? (i := 727) (by decide +kernel), List.mem_of_getElem? (i := 728) (by decide +kernel)⟩
theorem lw_p35 : lw_okq (⟨"LessonMaker$Machine", "push", "(I)V"⟩, 19) := ⟨⟨by decide +kernel, by decide +kernel⟩, List.mem_of_getElem? (i := 250) (by decide +kernel), List.mem_of_getElem? (i := 769) (by decide +kernel), List.mem_of_getElem? (i := 770) (by decide +kernel)⟩
theorem lw_p36 : lw_okq (⟨"LessonMaker$Machine", "enter", "(I)V"⟩, 19) := ⟨⟨by decide +kernel, by decide +kernel⟩, List.mem_of_getElem? (i := 250) (by decide +kernel), List.mem_of_getElem? (i := 774) (by decide +kernel), List.mem_of_getElem? (i := 775) (by decide +kernel)⟩
theorem lw_p37 : lw_okq (⟨"LessonMaker$Machine", "stop", "(I)V"⟩, 19) := ⟨⟨by decide +kernel, by decide +kernel⟩, List.mem_of_getElem? (i := 250) (by decide +kernel), List.mem_of_getElem? (i := 778) (by decide +kernel), List.mem_of_getElem? (i := 779) (by decide +kernel)⟩
theorem lw_p38 : lw_okq (⟨"LessonMaker$Machine", "setPlace", "(II)V"⟩, 19) := ⟨⟨by decide +kernel, by decide +kernel⟩, List.mem_of_getElem? (i := 250) (by decide +kernel), List.mem_of_getElem? (i := 783) (by decide +kernel), List.mem_of_getElem? (i := 784) (by decide +kernel)⟩
theorem lw_p39 : lw_okq (⟨"LessonMaker$Machine", "pop", "()I"⟩, 19) := ⟨⟨by decide +kernel, by decide +kernel⟩, List.mem_of_getElem? (i := 250) (by decide +kernel), List.mem_of_getElem? (i := 791) (by decide +kernel), List.mem_of_getElem? (i := 792) (by decide +kernel)⟩
theorem lw_p40 : lw_okq (⟨"LessonMaker$Machine", "obey", "(III)V"⟩, 19) := ⟨⟨by decide +kernel, by decide +kernel⟩, List.mem_of_getElem? (i := 250) (by decide +kernel), List.mem_of_getElem? (i := 797) (by decide +kernel), List.mem_of_getElem? (i := 798) (by decide +kernel)⟩
theorem lw_p41 : lw_okq (⟨"LessonMaker$Machine", "begin", "(I)V"⟩, 19) := ⟨⟨by decide +kernel, by decide +kernel⟩, List.mem_of_getElem? (i := 250) (by decide +kernel), List.mem_of_getElem? (i := 801) (by decide +kernel), List.mem_of_getElem? (i := 802) (by decide +kernel)⟩
theorem lw_p42 : lw_okq (⟨"LessonMaker$Machine", "spendStep", "()Z"⟩, 19) := ⟨⟨by decide +kernel, by decide +kernel⟩, List.mem_of_getElem? (i := 250) (by decide +kernel), List.mem_of_getElem? (i := 805) (by decide +kernel), List.mem_of_getElem? (i := 806) (by decide +kernel)⟩
theorem lw_p43 : lw_okq (⟨"LessonMaker$Machine", "placeNow", "(I)I"⟩, 19) := ⟨⟨by decide +kernel, by decide +kernel⟩, List.mem_of_getElem? (i := 250) (by decide +kernel), List.mem_of_getElem? (i := 809) (by decide +kernel), List.mem_of_getElem? (i := 810) (by decide +kernel)⟩
theorem lw_p44 : lw_okq (⟨"LessonMaker$Machine", "set", "(II)V"⟩, 19) := ⟨⟨by decide +kernel, by decide +kernel⟩, List.mem_of_getElem? (i := 250) (by decide +kernel), List.mem_of_getElem? (i := 813) (by decide +kernel), List.mem_of_getElem? (i := 814) (by decide +kernel)⟩
theorem lw_p45 : lw_okq (⟨"LessonMaker$Machine", "note", "(IIII)V"⟩, 19) := ⟨⟨by decide +kernel, by decide +kernel⟩, List.mem_of_getElem? (i := 250) (by decide +kernel), List.mem_of_getElem? (i := 817) (by decide +kernel), List.mem_of_getElem? (i := 818) (by decide +kernel)⟩
theorem lw_p46 : lw_okq (⟨"LessonMaker$Machine", "say", "(I)V"⟩, 19) := ⟨⟨by decide +kernel, by decide +kernel⟩, List.mem_of_getElem? (i := 250) (by decide +kernel), List.mem_of_getElem? (i := 821) (by decide +kernel), List.mem_of_getElem? (i := 822) (by decide +kernel)⟩
theorem lw_p47 : lw_okq (⟨"LessonMaker$Machine", "giveBack", "(I)V"⟩, 19) := ⟨⟨by decide +kernel, by decide +kernel⟩, List.mem_of_getElem? (i := 250) (by decide +kernel), List.mem_of_getElem? (i := 825) (by decide +kernel), List.mem_of_getElem? (i := 826) (by decide +kernel)⟩
def lw_privs_3 : List (MethodName × Nat) := [(⟨"LessonMaker$Reader", "joinCalls", "()V"⟩, 12), (⟨"LessonMaker", "turnToSpare", "()V"⟩, 14), (⟨"LessonMaker$Growth", "findReaches", "(LLessonMaker$Program;)V"⟩, 3), (⟨"LessonMaker$Machine", "push", "(I)V"⟩, 19), (⟨"LessonMaker$Machine", "enter", "(I)V"⟩, 19), (⟨"LessonMaker$Machine", "stop", "(I)V"⟩, 19), (⟨"LessonMaker$Machine", "setPlace", "(II)V"⟩, 19), (⟨"LessonMaker$Machine", "pop", "()I"⟩, 19), (⟨"LessonMaker$Machine", "obey", "(III)V"⟩, 19), (⟨"LessonMaker$Machine", "begin", "(I)V"⟩, 19), (⟨"LessonMaker$Machine", "spendStep", "()Z"⟩, 19), (⟨"LessonMaker$Machine", "placeNow", "(I)I"⟩, 19), (⟨"LessonMaker$Machine", "set", "(II)V"⟩, 19), (⟨"LessonMaker$Machine", "note", "(IIII)V"⟩, 19), (⟨"LessonMaker$Machine", "say", "(I)V"⟩, 19), (⟨"LessonMaker$Machine", "giveBack", "(I)V"⟩, 19)]
theorem lw_r3 : ∀ q ∈ lw_privs_3, lw_okq q := List.forall_mem_cons.mpr ⟨lw_p32, List.forall_mem_cons.mpr ⟨lw_p33, List.forall_mem_cons.mpr ⟨lw_p34, List.forall_mem_cons.mpr ⟨lw_p35, List.forall_mem_cons.mpr ⟨lw_p36, List.forall_mem_cons.mpr ⟨lw_p37, List.forall_mem_cons.mpr ⟨lw_p38, List.forall_mem_cons.mpr ⟨lw_p39, List.forall_mem_cons.mpr ⟨lw_p40, List.forall_mem_cons.mpr ⟨lw_p41, List.forall_mem_cons.mpr ⟨lw_p42, List.forall_mem_cons.mpr ⟨lw_p43, List.forall_mem_cons.mpr ⟨lw_p44, List.forall_mem_cons.mpr ⟨lw_p45, List.forall_mem_cons.mpr ⟨lw_p46, List.forall_mem_cons.mpr ⟨lw_p47, fun _ h => absurd h List.not_mem_nil⟩⟩⟩⟩⟩⟩⟩⟩⟩⟩⟩⟩⟩⟩⟩⟩
theorem lw_p48 : lw_okq (⟨"LessonMaker$Machine", "leave", "(I)V"⟩, 19) := ⟨⟨by decide +kernel, by decide +kernel⟩, List.mem_of_getElem? (i := 250) (by decide +kernel), List.mem_of_getElem? (i := 829) (by decide +kernel), List.mem_of_getElem? (i := 830) (by decide +kernel)⟩
theorem lw_p49 : lw_okq (⟨"LessonMaker$Machine", "branch", "(II)V"⟩, 19) := ⟨⟨by decide +kernel, by decide +kernel⟩, List.mem_of_getElem? (i := 250) (by decide +kernel), List.mem_of_getElem? (i := 833) (by decide +kernel), List.mem_of_getElem? (i := 834) (by decide +kernel)⟩
theorem lw_p50 : lw_okq (⟨"LessonMaker$Machine", "again", "(I)V"⟩, 19) := ⟨⟨by decide +kernel, by decide +kernel⟩, List.mem_of_getElem? (i := 250) (by decide +kernel), List.mem_of_getElem? (i := 837) (by decide +kernel), List.mem_of_getElem? (i := 838) (by decide +kernel)⟩
theorem lw_p51 : lw_okq (⟨"LessonMaker$Machine", "reckon", "(I)V"⟩, 19) := ⟨⟨by decide +kernel, by decide +kernel⟩, List.mem_of_getElem? (i := 250) (by decide +kernel), List.mem_of_getElem? (i := 841) (by decide +kernel), List.mem_of_getElem? (i := 842) (by decide +kernel)⟩
theorem lw_p52 : lw_okq (⟨"LessonMaker$Chapters", "find", "(LLessonMaker$Program;)V"⟩, 3) := ⟨⟨by decide +kernel, by decide +kernel⟩, List.mem_of_getElem? (i := 321) (by decide +kernel), List.mem_of_getElem? (i := 887) (by decide +kernel), List.mem_of_getElem? (i := 888) (by decide +kernel)⟩
theorem lw_p53 : lw_okq (⟨"LessonMaker$Chapters", "firstOfBest", "(LLessonMaker$Program;I)I"⟩, 3) := ⟨⟨by decide +kernel, by decide +kernel⟩, List.mem_of_getElem? (i := 321) (by decide +kernel), List.mem_of_getElem? (i := 892) (by decide +kernel), List.mem_of_getElem? (i := 893) (by decide +kernel)⟩
theorem lw_p54 : lw_okq (⟨"LessonMaker$Chapters", "costBehind", "(LLessonMaker$Program;II)I"⟩, 3) := ⟨⟨by decide +kernel, by decide +kernel⟩, List.mem_of_getElem? (i := 321) (by decide +kernel), List.mem_of_getElem? (i := 896) (by decide +kernel), List.mem_of_getElem? (i := 897) (by decide +kernel)⟩
theorem lw_p55 : lw_okq (⟨"LessonMaker$Told", "linesOf", "(I)J"⟩, 5) := ⟨⟨by decide +kernel, by decide +kernel⟩, List.mem_of_getElem? (i := 337) (by decide +kernel), List.mem_of_getElem? (i := 936) (by decide +kernel), List.mem_of_getElem? (i := 937) (by decide +kernel)⟩
theorem lw_p56 : lw_okq (⟨"LessonMaker$Told", "holds", "(II)Z"⟩, 5) := ⟨⟨by decide +kernel, by decide +kernel⟩, List.mem_of_getElem? (i := 337) (by decide +kernel), List.mem_of_getElem? (i := 940) (by decide +kernel), List.mem_of_getElem? (i := 941) (by decide +kernel)⟩
theorem lw_p57 : lw_okq (⟨"LessonMaker$Told", "fewestSet", "()I"⟩, 5) := ⟨⟨by decide +kernel, by decide +kernel⟩, List.mem_of_getElem? (i := 337) (by decide +kernel), List.mem_of_getElem? (i := 952) (by decide +kernel), List.mem_of_getElem? (i := 953) (by decide +kernel)⟩
theorem lw_p58 : lw_okq (⟨"LessonMaker$Told", "choose", "(I)V"⟩, 5) := ⟨⟨by decide +kernel, by decide +kernel⟩, List.mem_of_getElem? (i := 337) (by decide +kernel), List.mem_of_getElem? (i := 957) (by decide +kernel), List.mem_of_getElem? (i := 958) (by decide +kernel)⟩
theorem lw_p59 : lw_okq (⟨"java/lang/Throwable", "fillInStackTrace", "(I)Ljava/lang/Throwable;"⟩, 6) := ⟨⟨by decide +kernel, by decide +kernel⟩, List.mem_of_getElem? (i := 1034) (by decide +kernel), List.mem_of_getElem? (i := 1032) (by decide +kernel), List.mem_of_getElem? (i := 1033) (by decide +kernel)⟩
theorem lw_p60 : lw_okq (⟨"LessonMakerModel", "refused", "(I)I"⟩, 40) := ⟨⟨by decide +kernel, by decide +kernel⟩, List.mem_of_getElem? (i := 1099) (by decide +kernel), List.mem_of_getElem? (i := 1432) (by decide +kernel), List.mem_of_getElem? (i := 1433) (by decide +kernel)⟩
theorem lw_p61 : lw_okq (⟨"LessonMakerModel", "reads", "()V"⟩, 40) := ⟨⟨by decide +kernel, by decide +kernel⟩, List.mem_of_getElem? (i := 1099) (by decide +kernel), List.mem_of_getElem? (i := 1436) (by decide +kernel), List.mem_of_getElem? (i := 1437) (by decide +kernel)⟩
theorem lw_p62 : lw_okq (⟨"LessonMakerModel", "next", "()V"⟩, 40) := ⟨⟨by decide +kernel, by decide +kernel⟩, List.mem_of_getElem? (i := 1099) (by decide +kernel), List.mem_of_getElem? (i := 1440) (by decide +kernel), List.mem_of_getElem? (i := 1441) (by decide +kernel)⟩
theorem lw_p63 : lw_okq (⟨"LessonMakerModel", "byteAt", "(I)I"⟩, 40) := ⟨⟨by decide +kernel, by decide +kernel⟩, List.mem_of_getElem? (i := 1099) (by decide +kernel), List.mem_of_getElem? (i := 1444) (by decide +kernel), List.mem_of_getElem? (i := 1445) (by decide +kernel)⟩
def lw_privs_4 : List (MethodName × Nat) := [(⟨"LessonMaker$Machine", "leave", "(I)V"⟩, 19), (⟨"LessonMaker$Machine", "branch", "(II)V"⟩, 19), (⟨"LessonMaker$Machine", "again", "(I)V"⟩, 19), (⟨"LessonMaker$Machine", "reckon", "(I)V"⟩, 19), (⟨"LessonMaker$Chapters", "find", "(LLessonMaker$Program;)V"⟩, 3), (⟨"LessonMaker$Chapters", "firstOfBest", "(LLessonMaker$Program;I)I"⟩, 3), (⟨"LessonMaker$Chapters", "costBehind", "(LLessonMaker$Program;II)I"⟩, 3), (⟨"LessonMaker$Told", "linesOf", "(I)J"⟩, 5), (⟨"LessonMaker$Told", "holds", "(II)Z"⟩, 5), (⟨"LessonMaker$Told", "fewestSet", "()I"⟩, 5), (⟨"LessonMaker$Told", "choose", "(I)V"⟩, 5), (⟨"java/lang/Throwable", "fillInStackTrace", "(I)Ljava/lang/Throwable;"⟩, 6), (⟨"LessonMakerModel", "refused", "(I)I"⟩, 40), (⟨"LessonMakerModel", "reads", "()V"⟩, 40), (⟨"LessonMakerModel", "next", "()V"⟩, 40), (⟨"LessonMakerModel", "byteAt", "(I)I"⟩, 40)]
theorem lw_r4 : ∀ q ∈ lw_privs_4, lw_okq q := List.forall_mem_cons.mpr ⟨lw_p48, List.forall_mem_cons.mpr ⟨lw_p49, List.forall_mem_cons.mpr ⟨lw_p50, List.forall_mem_cons.mpr ⟨lw_p51, List.forall_mem_cons.mpr ⟨lw_p52, List.forall_mem_cons.mpr ⟨lw_p53, List.forall_mem_cons.mpr ⟨lw_p54, List.forall_mem_cons.mpr ⟨lw_p55, List.forall_mem_cons.mpr ⟨lw_p56, List.forall_mem_cons.mpr ⟨lw_p57, List.forall_mem_cons.mpr ⟨lw_p58, List.forall_mem_cons.mpr ⟨lw_p59, List.forall_mem_cons.mpr ⟨lw_p60, List.forall_mem_cons.mpr ⟨lw_p61, List.forall_mem_cons.mpr ⟨lw_p62, List.forall_mem_cons.mpr ⟨lw_p63, fun _ h => absurd h List.not_mem_nil⟩⟩⟩⟩⟩⟩⟩⟩⟩⟩⟩⟩⟩⟩⟩⟩
theorem lw_p64 : lw_okq (⟨"LessonMakerModel", "readFunction", "()V"⟩, 40) := ⟨⟨by decide +kernel, by decide +kernel⟩, List.mem_of_getElem? (i := 1099) (by decide +kernel), List.mem_of_getElem? (i := 1458) (by decide +kernel), List.mem_of_getElem? (i := 1459) (by decide +kernel)⟩
theorem lw_p65 : lw_okq (⟨"LessonMakerModel", "isWord", "(Ljava/lang/String;)Z"⟩, 40) := ⟨⟨by decide +kernel, by decide +kernel⟩, List.mem_of_getElem? (i := 1099) (by decide +kernel), List.mem_of_getElem? (i := 1463) (by decide +kernel), List.mem_of_getElem? (i := 1464) (by decide +kernel)⟩
theorem lw_p66 : lw_okq (⟨"LessonMakerModel", "stop", "(II)LLessonMakerModel$Stop;"⟩, 40) := ⟨⟨by decide +kernel, by decide +kernel⟩, List.mem_of_getElem? (i := 1099) (by decide +kernel), List.mem_of_getElem? (i := 1472) (by decide +kernel), List.mem_of_getElem? (i := 1473) (by decide +kernel)⟩
theorem lw_p67 : lw_okq (⟨"LessonMakerModel", "isName", "()Z"⟩, 40) := ⟨⟨by decide +kernel, by decide +kernel⟩, List.mem_of_getElem? (i := 1099) (by decide +kernel), List.mem_of_getElem? (i := 1476) (by decide +kernel), List.mem_of_getElem? (i := 1477) (by decide +kernel)⟩
theorem lw_p68 : lw_okq (⟨"LessonMakerModel", "need", "(I)V"⟩, 40) := ⟨⟨by decide +kernel, by decide +kernel⟩, List.mem_of_getElem? (i := 1099) (by decide +kernel), List.mem_of_getElem? (i := 1489) (by decide +kernel), List.mem_of_getElem? (i := 1490) (by decide +kernel)⟩
theorem lw_p69 : lw_okq (⟨"LessonMakerModel", "is", "(I)Z"⟩, 40) := ⟨⟨by decide +kernel, by decide +kernel⟩, List.mem_of_getElem? (i := 1099) (by decide +kernel), List.mem_of_getElem? (i := 1493) (by decide +kernel), List.mem_of_getElem? (i := 1494) (by decide +kernel)⟩
theorem lw_p70 : lw_okq (⟨"LessonMakerModel", "isPlace", "()Z"⟩, 40) := ⟨⟨by decide +kernel, by decide +kernel⟩, List.mem_of_getElem? (i := 1099) (by decide +kernel), List.mem_of_getElem? (i := 1497) (by decide +kernel), List.mem_of_getElem? (i := 1498) (by decide +kernel)⟩
theorem lw_p71 : lw_okq (⟨"LessonMakerModel", "readBlock", "(II)I"⟩, 40) := ⟨⟨by decide +kernel, by decide +kernel⟩, List.mem_of_getElem? (i := 1099) (by decide +kernel), List.mem_of_getElem? (i := 1502) (by decide +kernel), List.mem_of_getElem? (i := 1503) (by decide +kernel)⟩
theorem lw_p72 : lw_okq (⟨"LessonMakerModel", "readLine", "(II)I"⟩, 40) := ⟨⟨by decide +kernel, by decide +kernel⟩, List.mem_of_getElem? (i := 1099) (by decide +kernel), List.mem_of_getElem? (i := 1506) (by decide +kernel), List.mem_of_getElem? (i := 1507) (by decide +kernel)⟩
theorem lw_p73 : lw_okq (⟨"LessonMakerModel", "readSum", "()V"⟩, 40) := ⟨⟨by decide +kernel, by decide +kernel⟩, List.mem_of_getElem? (i := 1099) (by decide +kernel), List.mem_of_getElem? (i := 1510) (by decide +kernel), List.mem_of_getElem? (i := 1511) (by decide +kernel)⟩
theorem lw_p74 : lw_okq (⟨"LessonMakerModel", "readTerm", "()V"⟩, 40) := ⟨⟨by decide +kernel, by decide +kernel⟩, List.mem_of_getElem? (i := 1099) (by decide +kernel), List.mem_of_getElem? (i := 1514) (by decide +kernel), List.mem_of_getElem? (i := 1515) (by decide +kernel)⟩
theorem lw_p75 : lw_okq (⟨"LessonMakerModel", "readPart", "()V"⟩, 40) := ⟨⟨by decide +kernel, by decide +kernel⟩, List.mem_of_getElem? (i := 1099) (by decide +kernel), List.mem_of_getElem? (i := 1518) (by decide +kernel), List.mem_of_getElem? (i := 1519) (by decide +kernel)⟩
theorem lw_p76 : lw_okq (⟨"LessonMakerModel", "canBegin", "()Z"⟩, 40) := ⟨⟨by decide +kernel, by decide +kernel⟩, List.mem_of_getElem? (i := 1099) (by decide +kernel), List.mem_of_getElem? (i := 1522) (by decide +kernel), List.mem_of_getElem? (i := 1523) (by decide +kernel)⟩
theorem lw_p77 : lw_okq (⟨"LessonMakerModel", "opens", "()V"⟩, 40) := ⟨⟨by decide +kernel, by decide +kernel⟩, List.mem_of_getElem? (i := 1099) (by decide +kernel), List.mem_of_getElem? (i := 1530) (by decide +kernel), List.mem_of_getElem? (i := 1531) (by decide +kernel)⟩
theorem lw_p78 : lw_okq (⟨"LessonMakerModel", "texts", "()V"⟩, 40) := ⟨⟨by decide +kernel, by decide +kernel⟩, List.mem_of_getElem? (i := 1099) (by decide +kernel), List.mem_of_getElem? (i := 1534) (by decide +kernel), List.mem_of_getElem? (i := 1535) (by decide +kernel)⟩
theorem lw_p79 : lw_okq (⟨"LessonMakerModel", "done", "(I)I"⟩, 40) := ⟨⟨by decide +kernel, by decide +kernel⟩, List.mem_of_getElem? (i := 1099) (by decide +kernel), List.mem_of_getElem? (i := 1538) (by decide +kernel), List.mem_of_getElem? (i := 1539) (by decide +kernel)⟩
def lw_privs_5 : List (MethodName × Nat) := [(⟨"LessonMakerModel", "readFunction", "()V"⟩, 40), (⟨"LessonMakerModel", "isWord", "(Ljava/lang/String;)Z"⟩, 40), (⟨"LessonMakerModel", "stop", "(II)LLessonMakerModel$Stop;"⟩, 40), (⟨"LessonMakerModel", "isName", "()Z"⟩, 40), (⟨"LessonMakerModel", "need", "(I)V"⟩, 40), (⟨"LessonMakerModel", "is", "(I)Z"⟩, 40), (⟨"LessonMakerModel", "isPlace", "()Z"⟩, 40), (⟨"LessonMakerModel", "readBlock", "(II)I"⟩, 40), (⟨"LessonMakerModel", "readLine", "(II)I"⟩, 40), (⟨"LessonMakerModel", "readSum", "()V"⟩, 40), (⟨"LessonMakerModel", "readTerm", "()V"⟩, 40), (⟨"LessonMakerModel", "readPart", "()V"⟩, 40), (⟨"LessonMakerModel", "canBegin", "()Z"⟩, 40), (⟨"LessonMakerModel", "opens", "()V"⟩, 40), (⟨"LessonMakerModel", "texts", "()V"⟩, 40), (⟨"LessonMakerModel", "done", "(I)I"⟩, 40)]
theorem lw_r5 : ∀ q ∈ lw_privs_5, lw_okq q := List.forall_mem_cons.mpr ⟨lw_p64, List.forall_mem_cons.mpr ⟨lw_p65, List.forall_mem_cons.mpr ⟨lw_p66, List.forall_mem_cons.mpr ⟨lw_p67, List.forall_mem_cons.mpr ⟨lw_p68, List.forall_mem_cons.mpr ⟨lw_p69, List.forall_mem_cons.mpr ⟨lw_p70, List.forall_mem_cons.mpr ⟨lw_p71, List.forall_mem_cons.mpr ⟨lw_p72, List.forall_mem_cons.mpr ⟨lw_p73, List.forall_mem_cons.mpr ⟨lw_p74, List.forall_mem_cons.mpr ⟨lw_p75, List.forall_mem_cons.mpr ⟨lw_p76, List.forall_mem_cons.mpr ⟨lw_p77, List.forall_mem_cons.mpr ⟨lw_p78, List.forall_mem_cons.mpr ⟨lw_p79, fun _ h => absurd h List.not_mem_nil⟩⟩⟩⟩⟩⟩⟩⟩⟩⟩⟩⟩⟩⟩⟩⟩
theorem lw_p80 : lw_okq (⟨"LessonMakerModel", "isFunction", "(I)Z"⟩, 40) := ⟨⟨by decide +kernel, by decide +kernel⟩, List.mem_of_getElem? (i := 1099) (by decide +kernel), List.mem_of_getElem? (i := 1554) (by decide +kernel), List.mem_of_getElem? (i := 1555) (by decide +kernel)⟩
theorem lw_p81 : lw_okq (⟨"LessonMakerModel", "isLine", "(I)Z"⟩, 40) := ⟨⟨by decide +kernel, by decide +kernel⟩, List.mem_of_getElem? (i := 1099) (by decide +kernel), List.mem_of_getElem? (i := 1567) (by decide +kernel), List.mem_of_getElem? (i := 1568) (by decide +kernel)⟩
theorem lw_p82 : lw_okq (⟨"LessonMakerModel", "runs", "(IIIIII)V"⟩, 40) := ⟨⟨by decide +kernel, by decide +kernel⟩, List.mem_of_getElem? (i := 1099) (by decide +kernel), List.mem_of_getElem? (i := 1578) (by decide +kernel), List.mem_of_getElem? (i := 1579) (by decide +kernel)⟩
theorem lw_p83 : lw_okq (⟨"LessonMakerModel", "calls", "(I)I"⟩, 40) := ⟨⟨by decide +kernel, by decide +kernel⟩, List.mem_of_getElem? (i := 1099) (by decide +kernel), List.mem_of_getElem? (i := 1582) (by decide +kernel), List.mem_of_getElem? (i := 1583) (by decide +kernel)⟩
theorem lw_p84 : lw_okq (⟨"LessonMakerModel", "worked", "(II)I"⟩, 40) := ⟨⟨by decide +kernel, by decide +kernel⟩, List.mem_of_getElem? (i := 1099) (by decide +kernel), List.mem_of_getElem? (i := 1587) (by decide +kernel), List.mem_of_getElem? (i := 1588) (by decide +kernel)⟩
theorem lw_p85 : lw_okq (⟨"LessonMakerModel", "both", "(III)I"⟩, 40) := ⟨⟨by decide +kernel, by decide +kernel⟩, List.mem_of_getElem? (i := 1099) (by decide +kernel), List.mem_of_getElem? (i := 1591) (by decide +kernel), List.mem_of_getElem? (i := 1592) (by decide +kernel)⟩
theorem lw_p86 : lw_okq (⟨"LessonMakerModel", "says", "(I)V"⟩, 40) := ⟨⟨by decide +kernel, by decide +kernel⟩, List.mem_of_getElem? (i := 1099) (by decide +kernel), List.mem_of_getElem? (i := 1595) (by decide +kernel), List.mem_of_getElem? (i := 1596) (by decide +kernel)⟩
theorem lw_p87 : lw_okq (⟨"LessonMakerModel", "traces", "(III)V"⟩, 40) := ⟨⟨by decide +kernel, by decide +kernel⟩, List.mem_of_getElem? (i := 1099) (by decide +kernel), List.mem_of_getElem? (i := 1599) (by decide +kernel), List.mem_of_getElem? (i := 1600) (by decide +kernel)⟩
theorem lw_p88 : lw_okq (⟨"LessonMakerModel", "behind", "(I)I"⟩, 40) := ⟨⟨by decide +kernel, by decide +kernel⟩, List.mem_of_getElem? (i := 1099) (by decide +kernel), List.mem_of_getElem? (i := 1603) (by decide +kernel), List.mem_of_getElem? (i := 1604) (by decide +kernel)⟩
theorem lw_p89 : lw_okq (⟨"LessonMakerModel", "orders", "()V"⟩, 40) := ⟨⟨by decide +kernel, by decide +kernel⟩, List.mem_of_getElem? (i := 1099) (by decide +kernel), List.mem_of_getElem? (i := 1643) (by decide +kernel), List.mem_of_getElem? (i := 1644) (by decide +kernel)⟩
theorem lw_p90 : lw_okq (⟨"LessonMakerModel", "costs", "(II)I"⟩, 40) := ⟨⟨by decide +kernel, by decide +kernel⟩, List.mem_of_getElem? (i := 1099) (by decide +kernel), List.mem_of_getElem? (i := 1647) (by decide +kernel), List.mem_of_getElem? (i := 1648) (by decide +kernel)⟩
theorem lw_p91 : lw_okq (⟨"LessonMakerModel", "shownBy", "()J"⟩, 40) := ⟨⟨by decide +kernel, by decide +kernel⟩, List.mem_of_getElem? (i := 1099) (by decide +kernel), List.mem_of_getElem? (i := 1666) (by decide +kernel), List.mem_of_getElem? (i := 1667) (by decide +kernel)⟩
theorem lw_p92 : lw_okq (⟨"LessonMakerModel", "isNew", "(I)Z"⟩, 40) := ⟨⟨by decide +kernel, by decide +kernel⟩, List.mem_of_getElem? (i := 1099) (by decide +kernel), List.mem_of_getElem? (i := 1682) (by decide +kernel), List.mem_of_getElem? (i := 1683) (by decide +kernel)⟩
def lw_privs_6 : List (MethodName × Nat) := [(⟨"LessonMakerModel", "isFunction", "(I)Z"⟩, 40), (⟨"LessonMakerModel", "isLine", "(I)Z"⟩, 40), (⟨"LessonMakerModel", "runs", "(IIIIII)V"⟩, 40), (⟨"LessonMakerModel", "calls", "(I)I"⟩, 40), (⟨"LessonMakerModel", "worked", "(II)I"⟩, 40), (⟨"LessonMakerModel", "both", "(III)I"⟩, 40), (⟨"LessonMakerModel", "says", "(I)V"⟩, 40), (⟨"LessonMakerModel", "traces", "(III)V"⟩, 40), (⟨"LessonMakerModel", "behind", "(I)I"⟩, 40), (⟨"LessonMakerModel", "orders", "()V"⟩, 40), (⟨"LessonMakerModel", "costs", "(II)I"⟩, 40), (⟨"LessonMakerModel", "shownBy", "()J"⟩, 40), (⟨"LessonMakerModel", "isNew", "(I)Z"⟩, 40)]
theorem lw_r6 : ∀ q ∈ lw_privs_6, lw_okq q := List.forall_mem_cons.mpr ⟨lw_p80, List.forall_mem_cons.mpr ⟨lw_p81, List.forall_mem_cons.mpr ⟨lw_p82, List.forall_mem_cons.mpr ⟨lw_p83, List.forall_mem_cons.mpr ⟨lw_p84, List.forall_mem_cons.mpr ⟨lw_p85, List.forall_mem_cons.mpr ⟨lw_p86, List.forall_mem_cons.mpr ⟨lw_p87, List.forall_mem_cons.mpr ⟨lw_p88, List.forall_mem_cons.mpr ⟨lw_p89, List.forall_mem_cons.mpr ⟨lw_p90, List.forall_mem_cons.mpr ⟨lw_p91, List.forall_mem_cons.mpr ⟨lw_p92, fun _ h => absurd h List.not_mem_nil⟩⟩⟩⟩⟩⟩⟩⟩⟩⟩⟩⟩⟩
def lw_privs : List (MethodName × Nat) := lw_privs_1 ++ (lw_privs_2 ++ (lw_privs_3 ++ (lw_privs_4 ++ (lw_privs_5 ++ (lw_privs_6)))))
def lw_tbl : List Cond := k2_sels lw_privs ++ tables_1
theorem lw_privs_ok : ∀ q ∈ lw_privs, lw_okq q := by
  show ∀ q ∈ lw_privs_1 ++ (lw_privs_2 ++ (lw_privs_3 ++ (lw_privs_4 ++ (lw_privs_5 ++ (lw_privs_6))))), lw_okq q
  exact List.forall_mem_append.mpr ⟨lw_r1, List.forall_mem_append.mpr ⟨lw_r2, List.forall_mem_append.mpr ⟨lw_r3, List.forall_mem_append.mpr ⟨lw_r4, List.forall_mem_append.mpr ⟨lw_r5, lw_r6⟩⟩⟩⟩⟩
end
section
/-! ===== BEGIN words of one list among another's, by their places ===== -/
theorem goodIn_r {big : List Cond} (ws : List Cond) (ps : List Nat) (hp : ws = ps.filterMap (fun i => big[i]?)) (h : ws.all goodWord = true) : GoodIn big ws := by
  intro w hw
  have h1 := List.all_eq_true.mp h w hw
  rw [hp] at hw
  obtain ⟨i, -, hi⟩ := List.mem_filterMap.mp hw
  have hm : w ∈ big := by first | exact List.mem_of_getElem? hi | exact List.getElem?_mem hi
  exact ⟨hm, good_of_word h1⟩
theorem goodIn_app {big a b : List Cond} (ha : GoodIn big a) (hb : GoodIn big b) : GoodIn big (a ++ b) := fun w h => (List.mem_append.mp h).elim (ha w) (hb w)
theorem goodIn_ca {big a b : List Cond} {c : Cond} (ha : GoodIn big (c :: a)) (hb : GoodIn big b) : GoodIn big (c :: (a ++ b)) := fun w h => (List.mem_cons.mp h).elim (fun e => ha w (List.mem_cons.mpr (Or.inl e))) (fun h => (List.mem_append.mp h).elim (fun h => ha w (List.mem_cons.mpr (Or.inr h))) (hb w))
theorem goodIn_sub {big ws : List Cond} (hm : ∀ w ∈ ws, w ∈ big) (h : ws.all goodWord = true) : GoodIn big ws := fun w hw => ⟨hm w hw, good_of_word (List.all_eq_true.mp h w hw)⟩
/-! ===== END ===== -/

/-! ===== BEGIN exceptions that leave a method, and their catching by the caller (launches without stack traces) ===== -/
section VXA
/-! The laws vx_back, vx_callV, vx_callS, vx_callSW, vx_throw0, vx_throwS follow proofs of the library, with one case more: JvmDerived/Free/Laws.lean (Back.of_free), Shelf42/LK1.lean (callV, callS), Shelf/KitTraced.lean (throwNew0V, throwNewS). -/
/-- where a method has thrown q: the class by its name, the cell, what was written, the world -/
def vx_T (XC : String → State → State → Prop) (st : State) (q : Addr) (t : State) (mc ms : Nat) (free : Addr → Prop) : Prop :=
  ∃ (E : String) (ce : Cell) (L : List Loc), XC E st t ∧ t.heap[q]? = some ce ∧ ce.vm = .none ∧ st.vm.findClass E = some ce.cls ∧ st.WarmedH t.vm ∧ st.sameButNew ({ t with vm := st.vm } : State) L mc ms ∧ ∀ z ∈ L, free z.base
def vx_Q (Qc : Array Value → State → Outcome → State → Prop) (XC : String → State → State → Prop) (mc ms : Nat) (free : Addr → Prop) : Array Value → State → Outcome → State → Prop := fun a st o t =>
  (Qc a st o t ∧ ∃ L, FrameEnd st o t L mc ms ∧ ∀ q ∈ L, free q.base) ∨ ∃ q, o = .threw q ∧ vx_T XC st q t mc ms free
/-- a callee that returns or throws -/
def vx_Met (l : Launch) (y : MethodName) (ws : List Cond) (rm : Room) (Pc : Array Value → State → Prop) (Qc : Array Value → State → Outcome → State → Prop) (XC : String → State → State → Prop) (mc ms : Nat) (free : Addr → Prop) : Prop :=
  MetFree l y (headSpec ws rm) Pc (fun _ _ _ _ _ => True) (vx_Q Qc XC mc ms free)
def vx_Post (XC : String → State → State → Prop) (mc ms : Nat) (free : Addr → Prop) : Pt → Array Value → Addr → Pt → Prop := fun A a q B =>
  ∃ (g : JFrame) (mk : MethodId) (t : State) (L : List Loc) (E : String) (ce : Cell), B.U.heap = t.heap ∧ B.U.vm = t.vm ∧ XC E (A.U.calling g mk a) t ∧ t.heap[q]? = some ce ∧ ce.vm = .none ∧ A.U.vm.findClass E = some ce.cls ∧ B.locs = A.locs ++ L ∧ (∀ z ∈ L, free z.base) ∧ B.cells = A.cells + mc ∧ B.slots = A.slots + ms
def vx_Back (l : Launch) (R : Room) (p : Program) (e : Env) (below : List Frame) (s : State) (sargs : Array Value) (y : MethodName) (len W9 : Nat)
    (Pre : Pt → Array Value → Prop) (Post : Pt → Array Value → Option Value → Pt → Prop) (PostX : Pt → Array Value → Addr → Pt → Prop) : Prop :=
  ∀ (m : MethodId) (meth : Method) (c : Code) (A : Pt) (g : JFrame) (ig : Instr) (mk : MethodId) (a : Array Value),
    Stand p l e R s m sargs below meth c A.U A.locs A.cells A.slots → g.method = m → g.locals.size = c.maxLocals → decode c.code g.pc = .ok (ig, len) →
    2 * g.monitorRoom + (g.stack.map fun v => v.category).sum ≤ W9 → A.U.methodNamed? y = some mk → Pre A a →
    (∃ (v : Option Value) (B : Pt), Stand p l e R s m sargs below meth c B.U B.locs B.cells B.slots ∧ Post A a v B ∧
      Steps p.tables e below (doInvoke e (A.U.setTop g) [] mk a).1 (B.U.setTop { g with pc := g.pc + len, stack := v.toList ++ g.stack })) ∨
    (∃ (q : Addr) (B : Pt), Stand p l e R s m sargs below meth c B.U B.locs B.cells B.slots ∧ PostX A a q B ∧
      Steps p.tables e below (doInvoke e (A.U.setTop g) [] mk a).1 ((B.U.setTop g).pushFrame (.throwing q)))
section Payer
variable {l : Launch} {R : Room} {p : Program} {e : Env} {below : List Frame} {s : State} {sargs : Array Value} {y : MethodName} {len W9 : Nat}
theorem vx_back {ws : List Cond} {rm : Room} {Pc : Array Value → State → Prop} {Qc : Array Value → State → Outcome → State → Prop} {XC : String → State → State → Prop} {mc ms : Nat} {free : Addr → Prop} {bytes : ByteArray} {maxL : Nat} {ret : Option FieldType}
    (hM : vx_Met l y ws rm Pc Qc XC mc ms free) (hblind : FrameBlind Pc) (hrc : rm.cells = mc) (hrs : rm.slots = ms)
    (hframes : rm.frames + 1 ≤ R.frames) (hlocals : W9 + (maxL + 11) + rm.locals ≤ R.locals)
    (hws : ∀ w ∈ ws, ∀ a' U, s.WarmedH U.vm → w.before a' U = true) (hcode : Cond.code y bytes maxL ret ∈ ws) (hinit : ∀ a' U, s.WarmedH U.vm → (Cond.initialized y.cls).before a' U = true) :
    vx_Back l R p e below s sargs y len W9 (PreOf R mc ms Pc) (PostOf Qc mc ms free) (vx_Post XC mc ms free) := by
  intro m meth c A g ig mk a X hg hsize hdg hW hn hp
  have h1 : (headSpec ws rm).pre.before a A.U = true := atoms_intro fun w hw => hws w hw _ _ X.warmed
  have h2 : (Cond.code y bytes maxL ret).before a A.U = true := hws _ hcode _ _ X.warmed
  have h3 : (Cond.initialized y.cls).before a A.U = true := hinit _ _ X.warmed
  have h4 : A.cells + (headSpec ws rm).room.cells ≤ R.cells := by rw [show (headSpec ws rm).room.cells = mc from hrc]; exact hp.1
  have h5 : A.slots + (headSpec ws rm).room.slots ≤ R.slots := by rw [show (headSpec ws rm).room.slots = ms from hrs]; exact hp.2.1
  have hPc : Pc a (A.U.calling g mk a) := hblind _ _ _ _ hp.2.2
  obtain ⟨U, Ls, c0, s0⟩ := A
  dsimp only [Pt.U, Pt.locs, Pt.cells, Pt.slots] at h1 h2 h3 h4 h5 X hn hPc ⊢
  obtain ⟨methY, cY, hmY, hcY, -, hlY, -, -, -, -⟩ := Cond.code_spec hn h2
  obtain ⟨kY, hkY, -⟩ := className_of_methodNamed hn
  have hinitY : kY.init = .initialized := Cond.initialized_spec (findClass_of_methodNamed hn) hkY h3
  have h : At U g.method c below := by rw [hg]; exact X.here
  have hlocals9 : W9 + (maxL + 11) + (headSpec ws rm).room.locals ≤ R.locals := hlocals
  have happ : (headSpec ws rm).appliesLoose y e.platform (U.calling g mk a) = true :=
    Spec.appliesLoose_calling (g := g) h hdg hn hkY hinitY
      (X.room_calling (g := g) (R' := (headSpec ws rm).room) hsize hmY hcY hframes (by rw [hlY]; omega) h4 h5) h1
  obtain ⟨mid, hmid⟩ := h.above
  have hfr : (U.setTop g).frames = (.java g :: mid) ++ below := by rw [State.frames_setTop' g h.top, hmid]; rfl
  obtain ⟨o, s₂, hsteps, -, hend, hq⟩ := Steps.callFree hM p X.admits X.cas X.clock (acts := []) hfr happ hPc trivial
  have hq' : vx_Q Qc XC mc ms free a (U.calling g mk a) o s₂ := hq
  rw [State.frames_setTop' g h.top] at hend
  obtain ⟨g₀, hg0⟩ := Option.isSome_iff_exists.mp h.top
  obtain ⟨r, hr⟩ := State.topJava?_eq_some.mp hg0
  have hr' : (({ U with heap := s₂.heap, slotsUsed := s₂.slotsUsed } : State).setVm s₂.vm).frames = .java g₀ :: r := hr
  rcases hq' with ⟨hqc, L, hfe, hL⟩ | ⟨q, rfl, E, ce, L, hx, hce, hcv, hcl, hW₂, hsm, hL⟩
  · obtain ⟨⟨v, rfl⟩, hW₂, e2, q2, q3, q4, q5, q6⟩ := id hfe
    have e3 : s₂ = ({ (U.calling g mk a).setFrames s₂.frames with heap := s₂.heap, slotsUsed := s₂.slotsUsed } : State).setVm s₂.vm := by
      have : s₂ = ({ s₂ with vm := (U.calling g mk a).vm } : State).setVm s₂.vm := rfl
      rw [e2] at this
      exact this
    obtain ⟨c₂, i₂, len₂, hc₂, hd₂, hf₂⟩ := hend
    have hW' : U.WarmedH s₂.vm := hW₂
    have hcc : c₂ = c := by
      have h1 : s₂.code? g.method = U.code? g.method := by
        rw [State.code?_eq, State.code?_eq, hW'.alike.method?]
      exact Option.some.inj (hc₂.symm.trans (h1.trans h.code))
    subst hcc
    have hlen : len₂ = len := by rw [hdg] at hd₂; cases hd₂; rfl
    subst hlen
    have hs₂ : s₂ = (({ U with heap := s₂.heap, slotsUsed := s₂.slotsUsed } : State).setVm s₂.vm).setTop { g with pc := g.pc + len₂, stack := v.toList ++ g.stack } := by
      refine e3.trans ?_
      rw [hf₂, State.calling_eq h.top, State.setFrames_setFrames, State.setTop_of_frames _ hr', hr]
      rfl
    have hsame : U.sameButNew ({ U with heap := s₂.heap, slotsUsed := s₂.slotsUsed } : State) L mc ms := by
      refine ⟨?_, q2, q3, q4, q5, q6⟩
      obtain ⟨t, ht, -⟩ := State.frames_cons hr
      show ({ U with heap := s₂.heap, slotsUsed := s₂.slotsUsed } : State) = { U.setFrames U.frames with heap := s₂.heap, slotsUsed := s₂.slotsUsed }
      rw [State.setFrames_self ht]
    subst hg
    refine Or.inl ⟨v, ⟨(({ U with heap := s₂.heap, slotsUsed := s₂.slotsUsed } : State).setVm s₂.vm), Ls ++ L, c0 + mc, s0 + ms⟩,
      ⟨X.admits, X.cas, X.clock, X.frames, X.room, X.hears, X.method, X.code, (X.here.setHeapUsed s₂.heap s₂.slotsUsed).setVm hW'.alike, X.tail, State.WarmedH.trans X.warmed hW', X.limits, X.bytes, X.same.trans (hsame.setVm s.vm)⟩,
      ⟨g, mk, s₂, L, rfl, rfl, hqc, rfl, hL, rfl, rfl⟩, ?_⟩
    show Steps p.tables e below _ ((({ U with heap := s₂.heap, slotsUsed := s₂.slotsUsed } : State).setVm s₂.vm).setTop { g with pc := g.pc + len₂, stack := v.toList ++ g.stack })
    rw [← hs₂]
    exact hsteps
  · obtain ⟨e2, q2, q3, q4, q5, q6⟩ := id hsm
    have e3 : s₂ = ({ (U.calling g mk a).setFrames s₂.frames with heap := s₂.heap, slotsUsed := s₂.slotsUsed } : State).setVm s₂.vm := by
      have : s₂ = ({ s₂ with vm := (U.calling g mk a).vm } : State).setVm s₂.vm := rfl
      rw [e2] at this
      exact this
    have hf₂ : s₂.frames = .throwing q :: .java g :: U.frames.tail := hend
    have hW' : U.WarmedH s₂.vm := hW₂
    have hs₂ : s₂ = ((({ U with heap := s₂.heap, slotsUsed := s₂.slotsUsed } : State).setVm s₂.vm).setTop g).pushFrame (.throwing q) := by
      refine e3.trans ?_
      rw [hf₂, State.calling_eq h.top, State.setFrames_setFrames, State.pushFrame, State.frames_setTop _ hr', State.setTop_of_frames _ hr', State.setFrames_setFrames, hr]
      rfl
    have hsame : U.sameButNew ({ U with heap := s₂.heap, slotsUsed := s₂.slotsUsed } : State) L mc ms := by
      refine ⟨?_, q2, q3, q4, q5, q6⟩
      obtain ⟨t, ht, -⟩ := State.frames_cons hr
      show ({ U with heap := s₂.heap, slotsUsed := s₂.slotsUsed } : State) = { U.setFrames U.frames with heap := s₂.heap, slotsUsed := s₂.slotsUsed }
      rw [State.setFrames_self ht]
    subst hg
    refine Or.inr ⟨q, ⟨(({ U with heap := s₂.heap, slotsUsed := s₂.slotsUsed } : State).setVm s₂.vm), Ls ++ L, c0 + mc, s0 + ms⟩,
      ⟨X.admits, X.cas, X.clock, X.frames, X.room, X.hears, X.method, X.code, (X.here.setHeapUsed s₂.heap s₂.slotsUsed).setVm hW'.alike, X.tail, State.WarmedH.trans X.warmed hW', X.limits, X.bytes, X.same.trans (hsame.setVm s.vm)⟩,
      ⟨g, mk, s₂, L, E, ce, rfl, rfl, hx, hce, hcv, hcl, rfl, hL, rfl, rfl⟩, ?_⟩
    show Steps p.tables e below _ (((({ U with heap := s₂.heap, slotsUsed := s₂.slotsUsed } : State).setVm s₂.vm).setTop g).pushFrame (.throwing q))
    rw [← hs₂]
    exact hsteps
end Payer
section Calls
variable {p : Program} {l : Launch} {e : Env} {R : Room} {s : State} {m : MethodId} {args : Array Value} {below : List Frame} {meth : Method} {c : Code} {T : State} {locs : List Loc} {cells slots : Nat}
theorem vx_callV (X : Stand p l e R s m args below meth c T locs cells slots) (hexec : p.tables.exec = Jvm.exec) {own C : String} {index : Nat} {y : MethodName} {bytes : ByteArray} {maxL : Nat} {ret : Option FieldType}
    (hown : s.vm.findClass own = some m.cls) (hlink : (Cond.methodLink own index y).before args s = true) (hinst : (Cond.instanceMethod y).before args s = true) (hsel : (Cond.selects C y y).before args s = true)
    (hcode : (Cond.code y bytes maxL ret).before args s = true) (hy : y.cls ≠ "java/lang/invoke/MethodHandle" ∧ y.cls ≠ "java/lang/invoke/VarHandle")
    {W9 : Nat} {Pre : Pt → Array Value → Prop} {Post : Pt → Array Value → Option Value → Pt → Prop} {PostX : Pt → Array Value → Addr → Pt → Prop} (hK : vx_Back l R p e below s args y 3 W9 Pre Post PostX)
    {b : Addr} {cellB : Cell} (hcell : T.heap[b]? = some cellB) (hobj : cellB.vm.isStatics = false) (hcls : s.vm.findClass C = some cellB.cls)
    {g : JFrame} (hg : g.method = m) (hsize : g.locals.size = c.maxLocals) {argsL rest : List Value} (hlen : ∀ sig, parseMethodDescriptor y.desc = some sig → argsL.length = sig.parameters.length)
    (hstack : g.stack = argsL.reverse ++ .ref b :: rest) (hW : 2 * g.monitorRoom + (rest.map fun v => v.category).sum ≤ W9) (hdg : decode c.code g.pc = .ok (.invokevirtual index, 3))
    (hpre : ∀ vm₁, s.WarmedH vm₁ → Pre ⟨T.setVm vm₁, locs, cells, slots⟩ (Value.ref b :: argsL).toArray) :
    (∃ (v : Option Value) (vm₁ : Vm) (B : Pt), s.WarmedH vm₁ ∧ Stand p l e R s m args below meth c B.U B.locs B.cells B.slots ∧ Post ⟨T.setVm vm₁, locs, cells, slots⟩ (Value.ref b :: argsL).toArray v B ∧
      ∀ target, Steps p.tables e below (B.U.setTop { g with pc := g.pc + 3, stack := v.toList ++ rest }) target → Steps p.tables e below (T.setTop g) target) ∨
    (∃ (q : Addr) (vm₁ : Vm) (B : Pt), s.WarmedH vm₁ ∧ Stand p l e R s m args below meth c B.U B.locs B.cells B.slots ∧ PostX ⟨T.setVm vm₁, locs, cells, slots⟩ (Value.ref b :: argsL).toArray q B ∧
      Steps p.tables e below (T.setTop g) ((B.U.setTop { g with stack := rest }).pushFrame (.throwing q))) := by
  obtain ⟨mk, methM, hnamed, hmethM, hstM, habM⟩ := Cond.instanceMethod_spec hinst
  obtain ⟨methM', cM, hmethM', -, -, -, -, -, -, hsigM⟩ := Cond.code_spec hnamed hcode
  cases hmethM.symm.trans hmethM'
  obtain ⟨c2, r2, m2, q1, q2, q3, q4, kP, hkP, hkPi⟩ := Cond.selects_spec hsel
  cases hcls.symm.trans q1
  cases (State.methodFound?_of_named hnamed hy).symm.trans q2
  cases hnamed.symm.trans q3
  have hselP : selectMethod e.platform s.vm cellB.cls mk = .method mk := by rw [Launch.admits_selectMethod X.admits]; exact q4
  obtain ⟨vm₁, X₁, hstep₁⟩ := X.invokevirtual hexec hown hlink hnamed hmethM hstM hkP hkPi hy (a := b) (cell := cellB) hcell
    (fun z h => by rw [h] at hobj; cases hobj) hselP hmethM habM hkP hkPi (g := g) hg (argsL := argsL) (rest := rest) (hlen _ hsigM) hstack hdg
  rcases hK m meth c ⟨T.setVm vm₁, locs, cells, slots⟩ { g with stack := rest } (.invokevirtual index) mk (Value.ref b :: argsL).toArray X₁ hg hsize hdg hW (X₁.named hnamed) (hpre vm₁ X₁.warmed) with ⟨v, B, X', hpost, hsteps⟩ | ⟨q, B, X', hpost, hsteps⟩
  · exact Or.inl ⟨v, vm₁, B, X₁.warmed, X', hpost, fun target h => hstep₁ _ fun acts => by rw [doInvoke_state]; exact hsteps.trans h⟩
  · exact Or.inr ⟨q, vm₁, B, X₁.warmed, X', hpost, hstep₁ _ fun acts => by rw [doInvoke_state]; exact hsteps⟩
theorem vx_callS (X : Stand p l e R s m args below meth c T locs cells slots) (hexec : p.tables.exec = Jvm.exec) {own : String} {index : Nat} {y : MethodName} {bytes : ByteArray} {maxL : Nat} {ret : Option FieldType}
    (hown : s.vm.findClass own = some m.cls) (hlink : (Cond.methodLink own index y).before args s = true) (hstat : (Cond.static y).before args s = true) (hinit : (Cond.initialized y.cls).before args s = true)
    (hcode : (Cond.code y bytes maxL ret).before args s = true) (hy : y.cls ≠ "java/lang/invoke/MethodHandle" ∧ y.cls ≠ "java/lang/invoke/VarHandle")
    {W9 : Nat} {Pre : Pt → Array Value → Prop} {Post : Pt → Array Value → Option Value → Pt → Prop} {PostX : Pt → Array Value → Addr → Pt → Prop} (hK : vx_Back l R p e below s args y 3 W9 Pre Post PostX)
    {g : JFrame} (hg : g.method = m) (hsize : g.locals.size = c.maxLocals) {argsL rest : List Value} (hlen : ∀ sig, parseMethodDescriptor y.desc = some sig → argsL.length = sig.parameters.length)
    (hstack : g.stack = argsL.reverse ++ rest) (hW : 2 * g.monitorRoom + (rest.map fun v => v.category).sum ≤ W9) (hdg : decode c.code g.pc = .ok (.invokestatic index, 3))
    (hpre : ∀ vm₁, s.WarmedH vm₁ → Pre ⟨T.setVm vm₁, locs, cells, slots⟩ argsL.toArray) :
    (∃ (v : Option Value) (vm₁ : Vm) (B : Pt), s.WarmedH vm₁ ∧ Stand p l e R s m args below meth c B.U B.locs B.cells B.slots ∧ Post ⟨T.setVm vm₁, locs, cells, slots⟩ argsL.toArray v B ∧
      ∀ target, Steps p.tables e below (B.U.setTop { g with pc := g.pc + 3, stack := v.toList ++ rest }) target → Steps p.tables e below (T.setTop g) target) ∨
    (∃ (q : Addr) (vm₁ : Vm) (B : Pt), s.WarmedH vm₁ ∧ Stand p l e R s m args below meth c B.U B.locs B.cells B.slots ∧ PostX ⟨T.setVm vm₁, locs, cells, slots⟩ argsL.toArray q B ∧
      Steps p.tables e below (T.setTop g) ((B.U.setTop { g with stack := rest }).pushFrame (.throwing q))) := by
  obtain ⟨mk, hnamed⟩ := Cond.code_named hcode
  obtain ⟨methM, cM, hmethM, -, -, -, -, -, -, hsigM⟩ := Cond.code_spec hnamed hcode
  have hstatic : methM.isStatic = true := Cond.static_spec hnamed hmethM hstat
  obtain ⟨kP, hkP, -⟩ := className_of_methodNamed hnamed
  have hinitP : kP.init = .initialized := Cond.initialized_spec (findClass_of_methodNamed hnamed) hkP hinit
  obtain ⟨vm₁, X₁, hstep₁⟩ := X.invokestatic hexec hown hlink hnamed hmethM hstatic hkP hinitP hy (g := g) hg (argsL := argsL) (rest := rest) (hlen _ hsigM) hstack hdg
  rcases hK m meth c ⟨T.setVm vm₁, locs, cells, slots⟩ { g with stack := rest } (.invokestatic index) mk argsL.toArray X₁ hg hsize hdg hW (X₁.named hnamed) (hpre vm₁ X₁.warmed) with ⟨v, B, X', hpost, hsteps⟩ | ⟨q, B, X', hpost, hsteps⟩
  · exact Or.inl ⟨v, vm₁, B, X₁.warmed, X', hpost, fun target h => hstep₁ _ fun acts => by rw [doInvoke_state]; exact hsteps.trans h⟩
  · exact Or.inr ⟨q, vm₁, B, X₁.warmed, X', hpost, hstep₁ _ fun acts => by rw [doInvoke_state]; exact hsteps⟩
end Calls
theorem vx_cls {s : State} {T : State} {vm₁ : Vm} {E : String} {k : ClassId} (hW : s.WarmedH vm₁) (h : (T.setVm vm₁).vm.findClass E = some k) : s.vm.findClass E = some k := by
  have h1 : vm₁.findClass E = some k := h
  rw [hW.alike.findClass] at h1
  exact h1
/-- the method's frame g, with q thrown over it -/
def vx_W (p : Program) (l : Launch) (e : Env) (R : Room) (s : State) (m : MethodId) (args : Array Value) (below : List Frame) (meth : Method) (c : Code) (H : Heap) (locs : List Loc) (cells slots : Nat) (Q : State → Prop) (g : JFrame) (q : Addr) : Prop :=
  ∀ T : State, T.heap = H → Stand p l e R s m args below meth c T locs cells slots → ∃ t, Steps p.tables e below ((T.setTop g).pushFrame (.throwing q)) t ∧ Q t
def vx_Run (p : Program) (l : Launch) (e : Env) (R : Room) (s : State) (m : MethodId) (args : Array Value) (below : List Frame) (meth : Method) (c : Code) (H : Heap) (locs : List Loc) (cells slots mc ms : Nat) (g : JFrame) (rest : List Value) (Qa : State → Outcome → State → Prop) (XC : String → State → State → Prop) (free : Addr → Prop) : Prop :=
  ∀ T : State, T.heap = H → Stand p l e R s m args below meth c T locs cells slots →
    (∃ (v : Option Value) (st₀ t T' : State) (L : List Loc), st₀.heap = H ∧ Stand p l e R s m args below meth c T' (locs ++ L) (cells + mc) (slots + ms) ∧ (∀ q ∈ L, free q.base) ∧ T'.heap = t.heap ∧ T'.vm = t.vm ∧ Qa st₀ (.returned v) t ∧
      Goes p e below T g T' { g with pc := g.pc + 3, stack := v.toList ++ rest }) ∨
    (∃ (q : Addr) (st₀ t T' : State) (L : List Loc) (E : String) (ce : Cell), st₀.heap = H ∧ Stand p l e R s m args below meth c T' (locs ++ L) (cells + mc) (slots + ms) ∧ (∀ z ∈ L, free z.base) ∧ T'.heap = t.heap ∧ T'.vm = t.vm ∧ XC E st₀ t ∧ t.heap[q]? = some ce ∧ ce.vm = .none ∧ s.vm.findClass E = some ce.cls ∧
      Steps p.tables e below (T.setTop g) ((T'.setTop { g with stack := rest }).pushFrame (.throwing q)))
def vx_X {S : Type} (px : S → Prop) (B : String → S → State → Prop) (A : Nat → Prop) : String → State → State → Prop := fun E st t => ∃ u : S, px u ∧ B E u t ∧ va_F A st t
section Runs
variable {p : Program} {l : Launch} {e : Env} {R : Room} {s : State} {m : MethodId} {args : Array Value} {below : List Frame} {meth : Method} {c : Code} {H : Heap} {locs : List Loc} {cells slots : Nat}
variable {y : MethodName} {bytes cc : ByteArray} {maxL nL mc ms n index : Nat} {ret : Option FieldType} {ws : List Cond} {rm : Room} {Pc : Array Value → State → Prop} {Qc : Array Value → State → Outcome → State → Prop} {XC : String → State → State → Prop} {free : Addr → Prop} {Ts : List Cond} {own C : String} {b : Addr} {As rest : List Value} {g : JFrame}
theorem vx_callBack (cb : CallB R s args own index y bytes maxL ret ws rm mc ms n) (hM : vx_Met l y ws rm Pc Qc XC mc ms free) (hbl : FrameBlind Pc) : vx_Back l R p e below s args y 3 8 (PreOf R mc ms Pc) (PostOf Qc mc ms free) (vx_Post XC mc ms free) := by
  obtain ⟨hrc, hrs, hfr, hlo, hws, hcw, -, hini, -⟩ := cb
  exact vx_back (bytes := bytes) (maxL := maxL) (ret := ret) hM hbl hrc hrs hfr hlo hws hcw (fun a' U hW => word_at hW (Or.inl (by first | rfl | simp [Cond.onTables, Cond.keeps, Cond.steady])) hini)
theorem vx_runV (S : CallFix p m c cc nL s args Ts own) (hM : vx_Met l y ws rm Pc Qc XC mc ms free) (cw : CallW R s args own C index y bytes maxL ret ws rm mc ms n) (hp : PreV s H C b Pc As)
    (hg : g.method = m) (hn : As.length = n) (hsize : g.locals.size = nL) (hstack : g.stack = As.reverse ++ .ref b :: rest) (hW : 2 * g.monitorRoom + (rest.map fun v => v.category).sum ≤ 8) (hdg : decode cc g.pc = .ok (.invokevirtual index, 3)) (hf : cells + mc ≤ R.cells ∧ slots + ms ≤ R.slots) :
    vx_Run p l e R s m args below meth c H locs cells slots mc ms g rest (Qc (Value.ref b :: As).toArray) XC free := by
  have hK : vx_Back l R p e below s args y 3 8 (PreOf R mc ms Pc) (PostOf Qc mc ms free) (vx_Post XC mc ms free) := vx_callBack cw.1 hM hp.1
  obtain ⟨⟨-, -, -, -, -, -, hcode, -, hy, hlen, hl⟩, hin, hse⟩ := cw
  obtain ⟨hx, hb, hml, ho, -⟩ := S
  obtain ⟨-, ⟨cellB, hcB, hoB, hclB⟩, hPc⟩ := hp
  intro T hT X
  rcases vx_callV X hx (C := C) (bytes := bytes) (maxL := maxL) (ret := ret) ho hl hin hse hcode hy hK (by rw [hT]; exact hcB) hoB hclB hg (hsize.trans hml.symm) (argsL := As) (rest := rest) (fun sig h => hn.trans (hlen sig h)) hstack hW (by rw [hb]; exact hdg)
    (fun vm₁ hW₁ => ⟨hf.1, hf.2, hPc (T.setVm vm₁) hT hW₁⟩) with ⟨v, vm₁, ⟨U', l2, c2, s2⟩, hW₁, X', ⟨g', mk, t, L, e1, e2, hq, h1, hL, h2, h3⟩, st⟩ | ⟨q, vm₁, ⟨U', l2, c2, s2⟩, hW₁, X', ⟨g', mk, t, L, E, ce, e1, e2, hq, hce, hcv, hcl, h1, hL, h2, h3⟩, st⟩
  · dsimp only [Pt.U, Pt.locs, Pt.cells, Pt.slots] at X' e1 e2 h1 h2 h3 st
    subst h1; subst h2; subst h3
    exact Or.inl ⟨v, (T.setVm vm₁).calling g' mk (Value.ref b :: As).toArray, t, U', L, hT, X', hL, e1, e2, hq, st⟩
  · dsimp only [Pt.U, Pt.locs, Pt.cells, Pt.slots] at X' e1 e2 h1 h2 h3 st hcl
    subst h1; subst h2; subst h3
    exact Or.inr ⟨q, (T.setVm vm₁).calling g' mk (Value.ref b :: As).toArray, t, U', L, E, ce, hT, X', hL, e1, e2, hq, hce, hcv, vx_cls hW₁ hcl, st⟩
theorem vx_runS (S : CallFix p m c cc nL s args Ts own) (hM : vx_Met l y ws rm Pc Qc XC mc ms free) (cw : CallB R s args own index y bytes maxL ret ws rm mc ms n ∧ (Cond.static y).before args s = true) (hp : PreS s H Pc As)
    (hg : g.method = m) (hn : As.length = n) (hsize : g.locals.size = nL) (hstack : g.stack = As.reverse ++ rest) (hW : 2 * g.monitorRoom + (rest.map fun v => v.category).sum ≤ 8) (hdg : decode cc g.pc = .ok (.invokestatic index, 3)) (hf : cells + mc ≤ R.cells ∧ slots + ms ≤ R.slots) :
    vx_Run p l e R s m args below meth c H locs cells slots mc ms g rest (Qc As.toArray) XC free := by
  have hK : vx_Back l R p e below s args y 3 8 (PreOf R mc ms Pc) (PostOf Qc mc ms free) (vx_Post XC mc ms free) := vx_callBack cw.1 hM hp.1
  obtain ⟨⟨-, -, -, -, -, -, hcode, hini, hy, hlen, hl⟩, hstt⟩ := cw
  obtain ⟨hx, hb, hml, ho, -⟩ := S
  intro T hT X
  rcases vx_callS X hx (bytes := bytes) (maxL := maxL) (ret := ret) ho hl hstt hini hcode hy hK hg (hsize.trans hml.symm) (argsL := As) (rest := rest) (fun sig h => hn.trans (hlen sig h)) hstack hW (by rw [hb]; exact hdg)
    (fun vm₁ hW₁ => ⟨hf.1, hf.2, hp.2 (T.setVm vm₁) hT hW₁⟩) with ⟨v, vm₁, ⟨U', l2, c2, s2⟩, hW₁, X', ⟨g', mk, t, L, e1, e2, hq, h1, hL, h2, h3⟩, st⟩ | ⟨q, vm₁, ⟨U', l2, c2, s2⟩, hW₁, X', ⟨g', mk, t, L, E, ce, e1, e2, hq, hce, hcv, hcl, h1, hL, h2, h3⟩, st⟩
  · dsimp only [Pt.U, Pt.locs, Pt.cells, Pt.slots] at X' e1 e2 h1 h2 h3 st
    subst h1; subst h2; subst h3
    exact Or.inl ⟨v, (T.setVm vm₁).calling g' mk As.toArray, t, U', L, hT, X', hL, e1, e2, hq, st⟩
  · dsimp only [Pt.U, Pt.locs, Pt.cells, Pt.slots] at X' e1 e2 h1 h2 h3 st hcl
    subst h1; subst h2; subst h3
    exact Or.inr ⟨q, (T.setVm vm₁).calling g' mk As.toArray, t, U', L, E, ce, hT, X', hL, e1, e2, hq, hce, hcv, vx_cls hW₁ hcl, st⟩
end Runs
section Rows
variable {p : Program} {l : Launch} {e : Env} {R : Room} {s : State} {m : MethodId} {args : Array Value} {below : List Frame} {meth : Method} {c : Code} {H : Heap} {locs : List Loc} {cells slots : Nat} {Q : State → Prop}
variable {mc ms : Nat} {free : Addr → Prop} {A0 A1 : Nat → Prop} {H0 : Heap} {a : Array Value} {pc : Nat} {ls : Array Slot} {st0 rest : List Value}
theorem vx_keep {st₀ t T' : State} {L : List Loc} (h0 : st₀.heap = H) (e1 : T'.heap = t.heap) (hS : va_S A0 H0 H locs) (hA : ∀ q, q < H.size → A1 q → A0 q) (hf : ∀ q, free q → A0 q) (hL : ∀ q ∈ L, free q.base) (hF : va_F A1 st₀ t) :
    H.size ≤ T'.heap.size ∧ (∀ q : Nat, q < H.size → ¬ A1 q → T'.heap[q]? = H[q]?) ∧ va_S A0 H0 T'.heap (locs ++ L) := by
  obtain ⟨hz, hk⟩ := hF
  rw [h0] at hz hk
  exact ⟨by rw [e1]; exact hz, fun q h1 h2 => by rw [e1]; exact hk q h1 h2,
    ⟨Nat.le_trans hS.1 (by rw [e1]; exact hz), fun q h1 h2 => by rw [e1, hk q (Nat.lt_of_lt_of_le h1 hS.1) (fun z => h2 (hA q (Nat.lt_of_lt_of_le h1 hS.1) z))]; exact hS.2.1 q h1 h2, fun q hq => by
      rcases List.mem_append.mp hq with h | h
      · exact hS.2.2 q h
      · exact hf _ (hL q h)⟩⟩
theorem vx_calli {S SX : Type} {post : Int32 → S → Prop} {px : SX → Prop} {B : S → State → Prop} {BX : String → SX → State → Prop} {AX : Nat → Prop} (hr : vx_Run p l e R s m args below meth c H locs cells slots mc ms (F0 m pc ls st0) rest (va_Qi post B A1 a) (vx_X px BX AX) free) (hS : va_S A0 H0 H locs) (hA : ∀ q, q < H.size → A1 q → A0 q) (hf : ∀ q, free q → A0 q) (hAX : ∀ q, q < H.size → AX q → A0 q)
    (kx : ∀ (E : String) (ce : Cell) (q9 : Addr) (u : SX) (t : State) (H1 : Heap) (locs1 : List Loc), t.heap = H1 → s.vm.Alike t.vm → px u → BX E u t → H.size ≤ H1.size → (∀ q : Nat, q < H.size → ¬ AX q → H1[q]? = H[q]?) → va_S A0 H0 H1 locs1 → H1[q9]? = some ce → ce.vm = .none → s.vm.findClass E = some ce.cls → vx_W p l e R s m args below meth c H1 locs1 (cells + mc) (slots + ms) Q (F0 m pc ls rest) q9)
    (kk : ∀ (r : Int32) (u : S) (t : State) (H1 : Heap) (locs1 : List Loc), t.heap = H1 → s.vm.Alike t.vm → post r u → B u t → H.size ≤ H1.size → (∀ q : Nat, q < H.size → ¬ A1 q → H1[q]? = H[q]?) → va_S A0 H0 H1 locs1 → W p l e R s m args below meth c H1 locs1 (cells + mc) (slots + ms) Q (F0 m (pc + 3) ls (.int r :: rest))) : W p l e R s m args below meth c H locs cells slots Q (F0 m pc ls st0) := by
  intro T hT X
  rcases hr T hT X with ⟨v, st₀, t, T', L, h0, X', hL, e1, e2, ⟨⟨r, u, hv, hp, hb⟩, hF⟩, st⟩ | ⟨q, st₀, t, T', L, E, ce, h0, X', hL, e1, e2, ⟨u, hp, hb, hF⟩, hce, hcv, hcl, st⟩
  · cases hv
    obtain ⟨k1, k2, k3⟩ := vx_keep h0 e1 hS hA hf hL hF
    obtain ⟨t2, a1, b1⟩ := kk r u t T'.heap (locs ++ L) e1.symm (by rw [← e2]; exact X'.warmed.alike) hp hb k1 k2 k3 T' rfl X'
    exact ⟨t2, st t2 a1, b1⟩
  · obtain ⟨k1, k2, k3⟩ := vx_keep h0 e1 hS hAX hf hL hF
    obtain ⟨t2, a1, b1⟩ := kx E ce q u t T'.heap (locs ++ L) e1.symm (by rw [← e2]; exact X'.warmed.alike) hp hb k1 k2 k3 (by rw [e1]; exact hce) hcv hcl T' rfl X'
    exact ⟨t2, st.trans a1, b1⟩
theorem vx_calll {S SX : Type} {post : Int64 → S → Prop} {px : SX → Prop} {B : S → State → Prop} {BX : String → SX → State → Prop} {AX : Nat → Prop} (hr : vx_Run p l e R s m args below meth c H locs cells slots mc ms (F0 m pc ls st0) rest (va_Ql post B A1 a) (vx_X px BX AX) free) (hS : va_S A0 H0 H locs) (hA : ∀ q, q < H.size → A1 q → A0 q) (hf : ∀ q, free q → A0 q) (hAX : ∀ q, q < H.size → AX q → A0 q)
    (kx : ∀ (E : String) (ce : Cell) (q9 : Addr) (u : SX) (t : State) (H1 : Heap) (locs1 : List Loc), t.heap = H1 → s.vm.Alike t.vm → px u → BX E u t → H.size ≤ H1.size → (∀ q : Nat, q < H.size → ¬ AX q → H1[q]? = H[q]?) → va_S A0 H0 H1 locs1 → H1[q9]? = some ce → ce.vm = .none → s.vm.findClass E = some ce.cls → vx_W p l e R s m args below meth c H1 locs1 (cells + mc) (slots + ms) Q (F0 m pc ls rest) q9)
    (kk : ∀ (r : Int64) (u : S) (t : State) (H1 : Heap) (locs1 : List Loc), t.heap = H1 → s.vm.Alike t.vm → post r u → B u t → H.size ≤ H1.size → (∀ q : Nat, q < H.size → ¬ A1 q → H1[q]? = H[q]?) → va_S A0 H0 H1 locs1 → W p l e R s m args below meth c H1 locs1 (cells + mc) (slots + ms) Q (F0 m (pc + 3) ls (.long r :: rest))) : W p l e R s m args below meth c H locs cells slots Q (F0 m pc ls st0) := by
  intro T hT X
  rcases hr T hT X with ⟨v, st₀, t, T', L, h0, X', hL, e1, e2, ⟨⟨r, u, hv, hp, hb⟩, hF⟩, st⟩ | ⟨q, st₀, t, T', L, E, ce, h0, X', hL, e1, e2, ⟨u, hp, hb, hF⟩, hce, hcv, hcl, st⟩
  · cases hv
    obtain ⟨k1, k2, k3⟩ := vx_keep h0 e1 hS hA hf hL hF
    obtain ⟨t2, a1, b1⟩ := kk r u t T'.heap (locs ++ L) e1.symm (by rw [← e2]; exact X'.warmed.alike) hp hb k1 k2 k3 T' rfl X'
    exact ⟨t2, st t2 a1, b1⟩
  · obtain ⟨k1, k2, k3⟩ := vx_keep h0 e1 hS hAX hf hL hF
    obtain ⟨t2, a1, b1⟩ := kx E ce q u t T'.heap (locs ++ L) e1.symm (by rw [← e2]; exact X'.warmed.alike) hp hb k1 k2 k3 (by rw [e1]; exact hce) hcv hcl T' rfl X'
    exact ⟨t2, st.trans a1, b1⟩
theorem vx_callf {S SX : Type} {post : UInt32 → S → Prop} {px : SX → Prop} {B : S → State → Prop} {BX : String → SX → State → Prop} {AX : Nat → Prop} (hr : vx_Run p l e R s m args below meth c H locs cells slots mc ms (F0 m pc ls st0) rest (va_Qf post B A1 a) (vx_X px BX AX) free) (hS : va_S A0 H0 H locs) (hA : ∀ q, q < H.size → A1 q → A0 q) (hf : ∀ q, free q → A0 q) (hAX : ∀ q, q < H.size → AX q → A0 q)
    (kx : ∀ (E : String) (ce : Cell) (q9 : Addr) (u : SX) (t : State) (H1 : Heap) (locs1 : List Loc), t.heap = H1 → s.vm.Alike t.vm → px u → BX E u t → H.size ≤ H1.size → (∀ q : Nat, q < H.size → ¬ AX q → H1[q]? = H[q]?) → va_S A0 H0 H1 locs1 → H1[q9]? = some ce → ce.vm = .none → s.vm.findClass E = some ce.cls → vx_W p l e R s m args below meth c H1 locs1 (cells + mc) (slots + ms) Q (F0 m pc ls rest) q9)
    (kk : ∀ (r : UInt32) (u : S) (t : State) (H1 : Heap) (locs1 : List Loc), t.heap = H1 → s.vm.Alike t.vm → post r u → B u t → H.size ≤ H1.size → (∀ q : Nat, q < H.size → ¬ A1 q → H1[q]? = H[q]?) → va_S A0 H0 H1 locs1 → W p l e R s m args below meth c H1 locs1 (cells + mc) (slots + ms) Q (F0 m (pc + 3) ls (.float r :: rest))) : W p l e R s m args below meth c H locs cells slots Q (F0 m pc ls st0) := by
  intro T hT X
  rcases hr T hT X with ⟨v, st₀, t, T', L, h0, X', hL, e1, e2, ⟨⟨r, u, hv, hp, hb⟩, hF⟩, st⟩ | ⟨q, st₀, t, T', L, E, ce, h0, X', hL, e1, e2, ⟨u, hp, hb, hF⟩, hce, hcv, hcl, st⟩
  · cases hv
    obtain ⟨k1, k2, k3⟩ := vx_keep h0 e1 hS hA hf hL hF
    obtain ⟨t2, a1, b1⟩ := kk r u t T'.heap (locs ++ L) e1.symm (by rw [← e2]; exact X'.warmed.alike) hp hb k1 k2 k3 T' rfl X'
    exact ⟨t2, st t2 a1, b1⟩
  · obtain ⟨k1, k2, k3⟩ := vx_keep h0 e1 hS hAX hf hL hF
    obtain ⟨t2, a1, b1⟩ := kx E ce q u t T'.heap (locs ++ L) e1.symm (by rw [← e2]; exact X'.warmed.alike) hp hb k1 k2 k3 (by rw [e1]; exact hce) hcv hcl T' rfl X'
    exact ⟨t2, st.trans a1, b1⟩
theorem vx_calld {S SX : Type} {post : UInt64 → S → Prop} {px : SX → Prop} {B : S → State → Prop} {BX : String → SX → State → Prop} {AX : Nat → Prop} (hr : vx_Run p l e R s m args below meth c H locs cells slots mc ms (F0 m pc ls st0) rest (va_Qd post B A1 a) (vx_X px BX AX) free) (hS : va_S A0 H0 H locs) (hA : ∀ q, q < H.size → A1 q → A0 q) (hf : ∀ q, free q → A0 q) (hAX : ∀ q, q < H.size → AX q → A0 q)
    (kx : ∀ (E : String) (ce : Cell) (q9 : Addr) (u : SX) (t : State) (H1 : Heap) (locs1 : List Loc), t.heap = H1 → s.vm.Alike t.vm → px u → BX E u t → H.size ≤ H1.size → (∀ q : Nat, q < H.size → ¬ AX q → H1[q]? = H[q]?) → va_S A0 H0 H1 locs1 → H1[q9]? = some ce → ce.vm = .none → s.vm.findClass E = some ce.cls → vx_W p l e R s m args below meth c H1 locs1 (cells + mc) (slots + ms) Q (F0 m pc ls rest) q9)
    (kk : ∀ (r : UInt64) (u : S) (t : State) (H1 : Heap) (locs1 : List Loc), t.heap = H1 → s.vm.Alike t.vm → post r u → B u t → H.size ≤ H1.size → (∀ q : Nat, q < H.size → ¬ A1 q → H1[q]? = H[q]?) → va_S A0 H0 H1 locs1 → W p l e R s m args below meth c H1 locs1 (cells + mc) (slots + ms) Q (F0 m (pc + 3) ls (.double r :: rest))) : W p l e R s m args below meth c H locs cells slots Q (F0 m pc ls st0) := by
  intro T hT X
  rcases hr T hT X with ⟨v, st₀, t, T', L, h0, X', hL, e1, e2, ⟨⟨r, u, hv, hp, hb⟩, hF⟩, st⟩ | ⟨q, st₀, t, T', L, E, ce, h0, X', hL, e1, e2, ⟨u, hp, hb, hF⟩, hce, hcv, hcl, st⟩
  · cases hv
    obtain ⟨k1, k2, k3⟩ := vx_keep h0 e1 hS hA hf hL hF
    obtain ⟨t2, a1, b1⟩ := kk r u t T'.heap (locs ++ L) e1.symm (by rw [← e2]; exact X'.warmed.alike) hp hb k1 k2 k3 T' rfl X'
    exact ⟨t2, st t2 a1, b1⟩
  · obtain ⟨k1, k2, k3⟩ := vx_keep h0 e1 hS hAX hf hL hF
    obtain ⟨t2, a1, b1⟩ := kx E ce q u t T'.heap (locs ++ L) e1.symm (by rw [← e2]; exact X'.warmed.alike) hp hb k1 k2 k3 (by rw [e1]; exact hce) hcv hcl T' rfl X'
    exact ⟨t2, st.trans a1, b1⟩
theorem vx_callv {S SX : Type} {post : S → Prop} {px : SX → Prop} {B : S → State → Prop} {BX : String → SX → State → Prop} {AX : Nat → Prop} (hr : vx_Run p l e R s m args below meth c H locs cells slots mc ms (F0 m pc ls st0) rest (va_Qv post B A1 a) (vx_X px BX AX) free) (hS : va_S A0 H0 H locs) (hA : ∀ q, q < H.size → A1 q → A0 q) (hf : ∀ q, free q → A0 q) (hAX : ∀ q, q < H.size → AX q → A0 q)
    (kx : ∀ (E : String) (ce : Cell) (q9 : Addr) (u : SX) (t : State) (H1 : Heap) (locs1 : List Loc), t.heap = H1 → s.vm.Alike t.vm → px u → BX E u t → H.size ≤ H1.size → (∀ q : Nat, q < H.size → ¬ AX q → H1[q]? = H[q]?) → va_S A0 H0 H1 locs1 → H1[q9]? = some ce → ce.vm = .none → s.vm.findClass E = some ce.cls → vx_W p l e R s m args below meth c H1 locs1 (cells + mc) (slots + ms) Q (F0 m pc ls rest) q9)
    (kk : ∀ (u : S) (t : State) (H1 : Heap) (locs1 : List Loc), t.heap = H1 → s.vm.Alike t.vm → post u → B u t → H.size ≤ H1.size → (∀ q : Nat, q < H.size → ¬ A1 q → H1[q]? = H[q]?) → va_S A0 H0 H1 locs1 → W p l e R s m args below meth c H1 locs1 (cells + mc) (slots + ms) Q (F0 m (pc + 3) ls (rest))) : W p l e R s m args below meth c H locs cells slots Q (F0 m pc ls st0) := by
  intro T hT X
  rcases hr T hT X with ⟨v, st₀, t, T', L, h0, X', hL, e1, e2, ⟨⟨u, hv, hp, hb⟩, hF⟩, st⟩ | ⟨q, st₀, t, T', L, E, ce, h0, X', hL, e1, e2, ⟨u, hp, hb, hF⟩, hce, hcv, hcl, st⟩
  · cases hv
    obtain ⟨k1, k2, k3⟩ := vx_keep h0 e1 hS hA hf hL hF
    obtain ⟨t2, a1, b1⟩ := kk u t T'.heap (locs ++ L) e1.symm (by rw [← e2]; exact X'.warmed.alike) hp hb k1 k2 k3 T' rfl X'
    exact ⟨t2, st t2 a1, b1⟩
  · obtain ⟨k1, k2, k3⟩ := vx_keep h0 e1 hS hAX hf hL hF
    obtain ⟨t2, a1, b1⟩ := kx E ce q u t T'.heap (locs ++ L) e1.symm (by rw [← e2]; exact X'.warmed.alike) hp hb k1 k2 k3 (by rw [e1]; exact hce) hcv hcl T' rfl X'
    exact ⟨t2, st.trans a1, b1⟩
end Rows
section Ends
variable {p : Program} {l : Launch} {e : Env} {R : Room} {s : State} {m : MethodId} {args : Array Value} {below : List Frame} {meth : Method} {c : Code} {H : Heap} {locs : List Loc} {cells slots : Nat} {Q : State → Prop}
variable {mc ms : Nat} {free : Addr → Prop} {A0 A1 : Nat → Prop} {H0 : Heap} {a : Array Value} {ls : Array Slot} {st0 rest : List Value}
variable {Qc : Array Value → State → Outcome → State → Prop} {XC : String → State → State → Prop}
/-- what a body that may throw owes at its end -/
def vx_MQ (below : List Frame) (Qc : Array Value → State → Outcome → State → Prop) (XC : String → State → State → Prop) (a : Array Value) (s : State) (mc ms : Nat) (free : Addr → Prop) : State → Prop := fun t =>
  ∃ o, t.status = .running ∧ Ended t below o ∧ vx_Q Qc XC mc ms free a s o t
theorem vx_ret {g : JFrame} {mc ms : Nat} (k : W p l e R s m args below meth c H locs cells slots (MQ below Qc args s mc ms free) g) : W p l e R s m args below meth c H locs cells slots (vx_MQ below Qc XC args s mc ms free) g := by
  intro T hT X
  obtain ⟨t, a1, o, b1, b2, b3, b4⟩ := k T hT X
  exact ⟨t, a1, o, b1, b2, Or.inl ⟨b3, b4⟩⟩
/-- not caught here: it goes on to the caller -/
theorem vx_widen {g : JFrame} {q : Addr} {k n : Nat} (h1 : cells ≤ k) (h2 : slots ≤ n) (kk : vx_W p l e R s m args below meth c H locs k n Q g q) : vx_W p l e R s m args below meth c H locs cells slots Q g q := fun T hT X => kk T hT (stand_widen X h1 h2)
theorem vx_out {pc : Nat} {E : String} {ce : Cell} {q : Addr} {mc ms : Nat} (hout : ∀ x ∈ c.exceptionTable.toList, covers x pc = false) (hlocks : meth.locks = false) (hcell : H[q]? = some ce) (hv : ce.vm = .none) (hcl : s.vm.findClass E = some ce.cls)
    (hx : ∀ t : State, t.heap = H → s.vm.Alike t.vm → XC E s t) (hf : ∀ z ∈ locs, free z.base) (hc : cells ≤ mc) (hs : slots ≤ ms) :
    vx_W p l e R s m args below meth c H locs cells slots (vx_MQ below Qc XC args s mc ms free) (F0 m pc ls rest) q := by
  intro T hT X
  obtain ⟨st1, hrun, hend, hW, hsm⟩ := X.leaveThrown q (g := F0 m pc ls rest) rfl rfl rfl hout hlocks
  have hcell9 : (T.setFrames (.throwing q :: below)).heap[q]? = some ce := by
    show T.heap[q]? = some ce
    rw [hT]; exact hcell
  exact ⟨_, st1, .threw q, hrun, hend, Or.inr ⟨q, rfl, E, ce, locs, hx _ hT hW.alike, hcell9, hv, hcl, hW, hsm.mono hc hs, hf⟩⟩
theorem vx_frame {U : State} {k n : Nat} (h : s.sameButNew ({ U with vm := s.vm } : State) locs k n) : s.heap.size ≤ U.heap.size ∧ ∀ q : Nat, q < s.heap.size → (∀ z ∈ locs, z.base ≠ q) → U.heap[q]? = s.heap[q]? := by
  obtain ⟨-, h2, -, -, -, h6⟩ := h
  refine ⟨h2, fun q hq hz => ?_⟩
  obtain ⟨c9, e1, e2, e3, e4⟩ := h6 q _ (Array.getElem?_eq_getElem hq)
  have hs : c9.slots = (s.heap[q]).slots := Array.ext_getElem? fun i => e4 i fun hm => hz _ hm rfl
  have h9 : c9 = s.heap[q] := by
    rw [hs] at e2
    exact e2
  have e5 : U.heap[q]? = some c9 := e1
  rw [e5, h9, Array.getElem?_eq_getElem hq]
/-- the words of a throw but the four that speak of the heap -/
def vx_no (w : Cond) : Bool := decide (w ≠ .isRef (.static Bundle.tN "UNASSIGNED_STACK" Bundle.steD)) && decide (w ≠ .isRef (.static Bundle.tN "SUPPRESSED_SENTINEL" Bundle.listD)) && decide (w ≠ .laysStatic Bundle.tN "UNASSIGNED_STACK" Bundle.steD) && decide (w ≠ .laysStatic Bundle.tN "SUPPRESSED_SENTINEL" Bundle.listD)
def vx_at0 (own : String) (ic : Nat) (X : String) (names : List String) : List Cond := (Bundle.ownAtoms0 own ic X names).filter vx_no
def vx_atS (own : String) (ic : Nat) (X : String) (names : List String) : List Cond := (Bundle.ownAtoms own ic X names).filter vx_no
/-- a word that the tables alone decide, or a good one -/
def vx_ot (w : Cond) : Bool := w.onTables || goodWord w
theorem vx_ot_at {args a' : Array Value} {s U : State} {w : Cond} (hW : s.WarmedH U.vm) (hvm : s.vm = U.vm) (hg : vx_ot w = true) (h : w.before args s = true) : w.before a' U = true := by
  simp only [vx_ot, Bool.or_eq_true] at hg
  rcases hg with hg | hg
  · exact va_tabs hg hvm h
  · exact word_at hW (good_of_word hg) h
/-- a list's words: the good ones out of the method's own list, the others by premises of their own -/
theorem vx_hat {args : Array Value} {s : State} {L B : List Cond} (h1 : ∀ w ∈ L.filter goodWord, w.before args s = true) (h2 : ∀ w ∈ L.filter (fun w => !goodWord w), w ∈ B) (h3 : ∀ w ∈ B, w.before args s = true) : ∀ w ∈ L, w.before args s = true := by
  intro w hw
  by_cases g : goodWord w = true
  · exact h1 w (List.mem_filter.mpr ⟨hw, g⟩)
  · refine h3 w (h2 w (List.mem_filter.mpr ⟨hw, ?_⟩))
    show (!goodWord w) = true
    cases hgw : goodWord w
    · rfl
    · exact absurd hgw g
theorem vx_c {args : Array Value} {s : State} {w : Cond} {B : List Cond} (h : w.before args s = true) (t : ∀ w ∈ B, w.before args s = true) : ∀ w' ∈ w :: B, w'.before args s = true := fun w' h' => (List.mem_cons.mp h').elim (fun e => by rw [e]; exact h) (t w')
theorem vx_n {args : Array Value} {s : State} : ∀ w ∈ ([] : List Cond), w.before args s = true := fun _ h => nomatch h
theorem vx_own {args : Array Value} {s : State} {L : List Cond} (h1 : ∀ w ∈ L.filter vx_no, w.before args s = true)
    (hU : (Cond.isRef (.static Bundle.tN "UNASSIGNED_STACK" Bundle.steD)).before args s = true) (hN : (Cond.isRef (.static Bundle.tN "SUPPRESSED_SENTINEL" Bundle.listD)).before args s = true)
    (lU : (Cond.laysStatic Bundle.tN "UNASSIGNED_STACK" Bundle.steD).before args s = true) (lN : (Cond.laysStatic Bundle.tN "SUPPRESSED_SENTINEL" Bundle.listD).before args s = true) : ∀ w ∈ L, w.before args s = true := by
  intro w hw
  by_cases e1 : w = .isRef (.static Bundle.tN "UNASSIGNED_STACK" Bundle.steD)
  · rw [e1]; exact hU
  · by_cases e2 : w = .isRef (.static Bundle.tN "SUPPRESSED_SENTINEL" Bundle.listD)
    · rw [e2]; exact hN
    · by_cases e3 : w = .laysStatic Bundle.tN "UNASSIGNED_STACK" Bundle.steD
      · rw [e3]; exact lU
      · by_cases e4 : w = .laysStatic Bundle.tN "SUPPRESSED_SENTINEL" Bundle.listD
        · rw [e4]; exact lN
        · exact h1 w (List.mem_filter.mpr ⟨hw, by unfold vx_no; rw [decide_eq_true e1, decide_eq_true e2, decide_eq_true e3, decide_eq_true e4]; rfl⟩)
/-- where a static field lies, its class's statics cell in H -/
def vx_L (C n d : String) (A : Nat → Prop) (U : State) (H : Heap) : Prop := ∃ (c : ClassId) (k : Class) (i : Nat) (f : Field) (a : Nat) (cell : Cell), U.vm.findClass C = some c ∧ U.fieldFound? C n d = some (c, k, i, f) ∧ f.isStatic = true ∧ k.statics = some a ∧ H[a]? = some cell ∧ cell.vm.isStatics = true ∧ cell.cls = c ∧ f.slot < cell.slots.size ∧ k.staticTypes[f.slot]? = some f.type ∧ ¬ A a
theorem vx_L.moved {C n d : String} {A : Nat → Prop} {u U : State} {H : Heap} (hvm : u.vm.Alike U.vm) (h : vx_L C n d A u H) : vx_L C n d A U H := by
  obtain ⟨c, k, i, f, a, cell, h1, h2, h3, h4, h5, h6, h7, h8, h9, h10⟩ := h
  obtain ⟨k', hi', he⟩ := State.fieldFound?_setVm hvm h2
  exact ⟨c, k', i, f, a, cell, by rw [hvm.findClass]; exact h1, hi', h3, by rw [he]; exact h4, h5, h6, h7, h8, by rw [he]; exact h9, h10⟩
theorem vx_L.kept {C n d : String} {A : Nat → Prop} {U : State} {H H1 : Heap} (h : vx_L C n d A U H) (hq : ∀ a : Nat, a < H.size → ¬ A a → H1[a]? = H[a]?) : vx_L C n d A U H1 := by
  obtain ⟨c, k, i, f, a, cell, h1, h2, h3, h4, h5, h6, h7, h8, h9, h10⟩ := h
  exact ⟨c, k, i, f, a, cell, h1, h2, h3, h4, by rw [hq a (Array.getElem?_eq_some_iff.mp h5).1 h10]; exact h5, h6, h7, h8, h9, h10⟩
theorem vx_L.narrow {C n d : String} {A B : Nat → Prop} {U : State} {H : Heap} (h : vx_L C n d A U H) (hAB : ∀ q, B q → A q) : vx_L C n d B U H := by
  obtain ⟨c, k, i, f, a, cell, h1, h2, h3, h4, h5, h6, h7, h8, h9, h10⟩ := h
  exact ⟨c, k, i, f, a, cell, h1, h2, h3, h4, h5, h6, h7, h8, h9, fun z => h10 (hAB _ z)⟩
theorem vx_L.word {C n d : String} {A : Nat → Prop} {s : State} {args : Array Value} (h : vx_L C n d A s s.heap) : (Cond.laysStatic C n d).before args s = true := by
  obtain ⟨c, k, i, f, a, cell, h1, h2, h3, h4, h5, h6, h7, h8, h9, -⟩ := h
  show (Cond.laysStatic C n d).holds args s none s [] = true
  exact Cond.laysStatic_of h1 h2 h3 h4 h5 h6 h7 h8 h9
/-- .. and what it holds: null or some reference -/
def vx_Zq (C n d : String) (A : Nat → Prop) (U : State) (H : Heap) : Prop := va_Zq C n d A U H ∧ vx_L C n d A U H
theorem vx_Zq.moved {C n d : String} {A : Nat → Prop} {u U : State} {H : Heap} (hvm : u.vm.Alike U.vm) (h : vx_Zq C n d A u H) : vx_Zq C n d A U H := ⟨va_Zq.moved hvm h.1, vx_L.moved hvm h.2⟩
theorem vx_Zq.kept {C n d : String} {A : Nat → Prop} {U : State} {H H1 : Heap} (h : vx_Zq C n d A U H) (hq : ∀ a : Nat, a < H.size → ¬ A a → H1[a]? = H[a]?) : vx_Zq C n d A U H1 := ⟨va_Zq.kept h.1 hq, vx_L.kept h.2 hq⟩
theorem vx_Zq.narrow {C n d : String} {A B : Nat → Prop} {U : State} {H : Heap} (h : vx_Zq C n d A U H) (hAB : ∀ q, B q → A q) : vx_Zq C n d B U H := ⟨va_Zq.narrow h.1 hAB, vx_L.narrow h.2 hAB⟩
theorem vx_Zqof {args : Array Value} {s : State} {C n d : String} {A : Nat → Prop} (hl : (Cond.laysStatic C n d).before args s = true) (hini : (Cond.initialized C).before args s = true) (h : (Cond.isRef (.static C n d)).before args s = true) (hA : ∀ a : Nat, a < s.heap.size → ¬ A a) : vx_Zq C n d A s s.heap := by
  refine ⟨va_Zqof hl hini h hA, ?_⟩
  obtain ⟨c, k, i, f, a, cell, h1, h2, h3, h4, h5, h6, h7, h8, h9⟩ := Cond.laysStatic_spec hl
  exact ⟨c, k, i, f, a, cell, h1, h2, h3, h4, h5, h6, h7, h8, h9, hA a (Array.getElem?_eq_some_iff.mp h5).1⟩
theorem vx_isRef {C n d : String} {v : Value} {A : Nat → Prop} {s : State} {args : Array Value} (h : va_Z C n d v A s s.heap) (hv : v.isRef = true) : (Cond.isRef (.static C n d)).before args s = true := by
  obtain ⟨cf, kf, fi, f, a, cell, h1, h2, h3, h4, h5, h6, h7, -⟩ := h
  have he : (Term.static C n d).eval args s none [] s = some v := by
    simp [Term.eval, State.fieldNamed?, h1, h2, h4, h5, h6, h7]
  simp only [Cond.before, Cond.holds, Cond.value, he]
  cases v <;> simp_all [Value.isRef]
theorem vx_isRefq {C n d : String} {A : Nat → Prop} {s : State} {args : Array Value} (h : va_Zq C n d A s s.heap) : (Cond.isRef (.static C n d)).before args s = true := by
  rcases h with h | ⟨t, h⟩
  · exact vx_isRef h rfl
  · exact vx_isRef h rfl
/-- the same frame, seen from here: as if the method were called anew in this heap -/
theorem vx_rebase {T : State} (X : Stand p l e R s m args below meth c T locs cells slots) {R' : Room} (hf : R'.frames ≤ R.frames) (hl : R'.locals ≤ R.locals) (hc : cells + R'.cells ≤ R.cells) (hs : slots + R'.slots ≤ R.slots) :
    Stand p l e R' ((T.setVm s.vm).setFrames (.invoking m args :: below)) m args below meth c T [] 0 0 := by
  have htop : (T.setVm s.vm).topJava?.isSome := X.here.top
  have hF : ((T.setVm s.vm).setFrames (.invoking m args :: below)).frames = .invoking m args :: below := State.frames_setFrames _ (State.cur_lt_of_top htop)
  obtain ⟨g₀, hg0⟩ := Option.isSome_iff_exists.mp htop
  obtain ⟨r, hr⟩ := State.topJava?_eq_some.mp hg0
  have hl9 : e.platform.stackLimits (T.setVm s.vm).me = e.platform.stackLimits s.me := X.limits
  have hb9 : (T.setVm s.vm).me.stackBytes = s.me.stackBytes := X.bytes
  refine ⟨X.admits, X.cas, X.clock, hF, ?_, X.hears, X.method, X.code, X.here, X.tail, X.warmed, ?_, ?_, ?_⟩
  · have h := X.room
    have hU : ((T.setVm s.vm).setFrames (.invoking m args :: below)).localsInUse = s.localsInUse := by
      rw [State.localsInUse_invoking hF (meth := meth) (c := c) X.method X.code, State.localsInUse_invoking X.frames X.method X.code]
    simp only [State.hasRoom, Bool.and_eq_true, decide_eq_true_eq] at h ⊢
    obtain ⟨⟨⟨⟨h1, h2, h3, h4, h5, h6⟩, h7⟩, h8⟩, h9⟩ := h
    rw [X.frames, List.length_cons] at h2 h3
    have q1 := X.heapSize
    have q2 := X.used
    simp only [hF, hU, List.length_cons, State.stackLimits_setFrames, State.stackBytes_setFrames, hl9, hb9]
    refine ⟨⟨⟨⟨by omega, by omega, by omega, by omega, by omega, h6⟩, ?_⟩, ?_⟩, X.book⟩
    · show T.heap.size + R'.cells ≤ e.platform.maxCells
      omega
    · show T.slotsUsed + R'.slots ≤ e.platform.maxSlots
      omega
  · rw [State.stackLimits_setFrames]; rfl
  · rw [State.stackBytes_setFrames]; rfl
  · refine ⟨?_, Nat.le_refl _, Nat.le_refl _, ?_, ?_, fun a c9 h9 => ⟨c9, h9, rfl, rfl, fun _ _ => rfl⟩⟩
    · obtain ⟨t, ht, -⟩ := State.frames_cons hr
      show T.setVm s.vm = { ((T.setVm s.vm).setFrames (.invoking m args :: below)).setFrames (T.setVm s.vm).frames with heap := T.heap, slotsUsed := T.slotsUsed }
      rw [State.setFrames_setFrames, State.setFrames_self ht]
      rfl
    · show T.slotsUsed = T.slotsUsed + ((T.heap.toList.drop T.heap.size).map (·.slots.size)).sum
      rw [List.drop_eq_nil_of_le (Nat.le_of_eq Array.length_toList)]
      rfl
    · show ((T.heap.toList.drop T.heap.size).map (·.slots.size)).sum ≤ 0
      rw [List.drop_eq_nil_of_le (Nat.le_of_eq Array.length_toList)]
      exact Nat.le_refl _
/-- 'throw new E()': new; dup; invokespecial; athrow -/
theorem vx_throw0 {cc : ByteArray} {pc : Nat} (hexec : p.tables.exec = Jvm.exec) (hb : c.code = cc) (hl : l.stackTraces = false) {own cls : String} {names : List String} {ik ic mc ms : Nat} {A : Nat → Prop}
    (hown : s.vm.findClass own = some m.cls) (hcls : Bundle.fit cls = true) (hnames : ∀ n ∈ names, Bundle.fit n = true)
    (hk : (Cond.classLink own ik cls).before args s = true) (hini : (Cond.initialized cls).before args s = true) (hat : ∀ w ∈ vx_at0 own ic cls names, w.before args s = true)
    (hgood : ∀ w ∈ Cond.classLink own ik cls :: Cond.initialized cls :: vx_at0 own ic cls names, vx_ot w = true)
    (hU : vx_Zq Bundle.tN "UNASSIGNED_STACK" Bundle.steD A s s.heap) (hN : vx_Zq Bundle.tN "SUPPRESSED_SENTINEL" Bundle.listD A s s.heap) (hS : va_S A s.heap H locs) (hsize : ls.size = c.maxLocals)
    (d0 : decode cc pc = .ok (.new ik, 3)) (d3 : decode cc (pc + 3) = .ok (.dup, 1)) (d4 : decode cc (pc + 4) = .ok (.invokespecial ic, 3)) (d7 : decode cc (pc + 7) = .ok (.athrow, 1))
    (hout : ∀ x ∈ c.exceptionTable.toList, covers x (pc + 7) = false)
    (hRframes : names.length + 3 < R.frames) (hRlocals : (rest.map fun v => v.category).sum + (13 * (names.length + 1) + 42) ≤ R.locals) (hRcells : cells + 1 ≤ R.cells) (hRslots : slots + 6 ≤ R.slots) (hlocks : meth.locks = false)
    (hx : ∀ t : State, s.vm.Alike t.vm → H.size ≤ t.heap.size → (∀ q : Nat, q < H.size → t.heap[q]? = H[q]?) → XC cls s t)
    (hf : ∀ z ∈ locs, free z.base) (hc : cells + 1 ≤ mc) (hs : slots + 6 ≤ ms) :
    W p l e R s m args below meth c H locs cells slots (vx_MQ below Qc XC args s mc ms free) (F0 m pc ls rest) := by
  intro T hT X
  have htr : e.platform.stackTraces = false := (show e.platform.stackTraces = l.stackTraces by rw [X.admits.platform]).trans hl
  have Y := vx_rebase X (R' := { frames := R.frames, locals := R.locals, cells := 1, slots := 6 }) (Nat.le_refl _) (Nat.le_refl _) hRcells hRslots
  obtain ⟨s', hA⟩ : ∃ z, z = (T.setVm s.vm).setFrames (.invoking m args :: below) := ⟨_, rfl⟩
  rw [← hA] at Y
  have hvm : s'.vm = s.vm := by rw [hA]; rfl
  have hhp : s'.heap = H := by rw [hA]; exact hT
  have hW0 : s.WarmedH s'.vm := by rw [hvm]; exact State.WarmedH.refl s
  have hat' : ∀ w ∈ vx_at0 own ic cls names, w.before args s' = true := fun w hw => vx_ot_at hW0 hvm.symm (hgood w (List.mem_cons_of_mem _ (List.mem_cons_of_mem _ hw))) (hat w hw)
  have hk' : (Cond.classLink own ik cls).before args s' = true := vx_ot_at hW0 hvm.symm (hgood _ List.mem_cons_self) hk
  have hini' : (Cond.initialized cls).before args s' = true := vx_ot_at hW0 hvm.symm (hgood _ (List.mem_cons_of_mem _ List.mem_cons_self)) hini
  have hU' : vx_Zq Bundle.tN "UNASSIGNED_STACK" Bundle.steD A s' s'.heap := by rw [hhp]; exact vx_Zq.moved hW0.alike (hU.kept hS.2.1)
  have hN' : vx_Zq Bundle.tN "SUPPRESSED_SENTINEL" Bundle.listD A s' s'.heap := by rw [hhp]; exact vx_Zq.moved hW0.alike (hN.kept hS.2.1)
  have h : ∀ w ∈ Bundle.ownAtoms0 own ic cls names, w.before args s' = true := vx_own hat' (vx_isRefq hU'.1) (vx_isRefq hN'.1) hU'.2.word hN'.2.word
  have hown' : s'.vm.findClass own = some m.cls := by rw [hvm]; exact hown
  have hins : (Cond.instantiable cls 6).before args s' = true := h _ (by simp [Bundle.ownAtoms0])
  obtain ⟨vm₁, cX, kX, hfX, hkX, -, -, X₁, st1⟩ := Y.newCold hexec (own := own) (C := cls) (index := ik) (n := 6) hown' hk' hins hini'
    (g := F0 m pc ls rest) rfl (by rw [hb]; exact d0) (Nat.le_refl _) (Nat.le_refl _)
  generalize hT1 : (T.setVm vm₁).pushCell { cls := cX, slots := kX.instanceTypes.map defaultValue, vm := .none } = T1 at X₁ st1
  have hcat : (Value.ref T.heap.size).category = 1 := rfl
  have hcellA : T1.heap[T.heap.size]? = some (freshCell cX kX) := by rw [← hT1]; exact State.heap_pushCell_size _ _
  have d3' : decode c.code (pc + 3) = .ok (.dup, 1) := by rw [hb]; exact d3
  obtain ⟨U, hsteps, hrun, hend, hW, hsame, ce, hce, hO⟩ := X₁.ctorThrow0 hexec htr (own := own) (cls := cls) (names := names) (ic := ic) hown' hcls hnames h (fun x hx => nomatch hx) hfX hkX hcellA (by rw [hhp, hT]; exact Nat.le_refl _)
    (g := { method := m, pc := pc + 4, locals := ls, stack := .ref T.heap.size :: .ref T.heap.size :: rest, locked := none }) rfl hsize rfl rfl (rest := rest) rfl
    (by rw [hb]; exact d4) (by rw [hb]; exact d7) hout hRframes (by simp only [List.map_cons, List.sum_cons, hcat]; omega) hlocks
  obtain ⟨f1, f2⟩ := vx_frame hsame
  rw [hhp] at f1 f2
  have hWs : s.WarmedH U.vm := State.WarmedH.trans hW0 hW
  have hcl : s.vm.findClass cls = some ce.cls := by
    have h9 := hO.cls
    rw [hvm] at h9
    exact h9
  have hall : s.sameButNew ({ U with vm := s.vm } : State) locs mc ms := by
    subst hA
    obtain ⟨e1, e2⟩ := hsame
    rw [State.setFrames_setFrames] at e1
    have h2 : (T.setVm s.vm).sameButNew ({ U with vm := s.vm } : State) [] (0 + 1) (0 + 6) := ⟨e1, e2⟩
    have h3 := X.same.trans h2
    rw [List.append_nil] at h3
    exact h3.mono hc hs
  refine ⟨U, ?_, .threw T.heap.size, hrun, hend, Or.inr ⟨T.heap.size, rfl, cls, ce, locs, hx U hWs.alike f1 (fun q hq => f2 q hq (fun z hz => nomatch hz)), hce, hO.vm, hcl, hWs, hall, hf⟩⟩
  refine st1 _ ?_
  show Steps p.tables e below (T1.setTop { method := m, pc := pc + 3, locals := ls, stack := .ref T.heap.size :: rest, locked := none }) _
  jvm_step X₁.here [X₁.here.top, hexec, d3', Value.category]
  exact hsteps
/-- 'throw new E("text")': new; dup; ldc; invokespecial; athrow -/
theorem vx_throwS {cc : ByteArray} {pc : Nat} (hexec : p.tables.exec = Jvm.exec) (hb : c.code = cc) (hl : l.stackTraces = false) {own cls text : String} {names : List String} {ik is ic mc ms sa : Nat} {A : Nat → Prop}
    (hown : s.vm.findClass own = some m.cls) (hcls : Bundle.fit cls = true) (hnames : ∀ n ∈ names, Bundle.fit n = true)
    (hk : (Cond.classLink own ik cls).before args s = true) (hini : (Cond.initialized cls).before args s = true) (hstr : vk_R own is text sa s) (hat : ∀ w ∈ vx_atS own ic cls names, w.before args s = true)
    (hgood : ∀ w ∈ Cond.classLink own ik cls :: Cond.initialized cls :: vx_atS own ic cls names, vx_ot w = true)
    (hU : vx_Zq Bundle.tN "UNASSIGNED_STACK" Bundle.steD A s s.heap) (hN : vx_Zq Bundle.tN "SUPPRESSED_SENTINEL" Bundle.listD A s s.heap) (hS : va_S A s.heap H locs) (hsize : ls.size = c.maxLocals)
    (d0 : decode cc pc = .ok (.new ik, 3)) (d3 : decode cc (pc + 3) = .ok (.dup, 1)) (d4 : decode cc (pc + 4) = .ok (.ldc is, 2)) (d6 : decode cc (pc + 6) = .ok (.invokespecial ic, 3)) (d9 : decode cc (pc + 9) = .ok (.athrow, 1))
    (hout : ∀ x ∈ c.exceptionTable.toList, covers x (pc + 9) = false)
    (hRframes : names.length + 3 < R.frames) (hRlocals : (rest.map fun v => v.category).sum + (13 * (names.length + 1) + 43) ≤ R.locals) (hRcells : cells + 1 ≤ R.cells) (hRslots : slots + 6 ≤ R.slots) (hlocks : meth.locks = false)
    (hx : ∀ t : State, s.vm.Alike t.vm → H.size ≤ t.heap.size → (∀ q : Nat, q < H.size → t.heap[q]? = H[q]?) → XC cls s t)
    (hf : ∀ z ∈ locs, free z.base) (hc : cells + 1 ≤ mc) (hs : slots + 6 ≤ ms) :
    W p l e R s m args below meth c H locs cells slots (vx_MQ below Qc XC args s mc ms free) (F0 m pc ls rest) := by
  intro T hT X
  have htr : e.platform.stackTraces = false := (show e.platform.stackTraces = l.stackTraces by rw [X.admits.platform]).trans hl
  have Y := vx_rebase X (R' := { frames := R.frames, locals := R.locals, cells := 1, slots := 6 }) (Nat.le_refl _) (Nat.le_refl _) hRcells hRslots
  obtain ⟨s', hA⟩ : ∃ z, z = (T.setVm s.vm).setFrames (.invoking m args :: below) := ⟨_, rfl⟩
  rw [← hA] at Y
  have hvm : s'.vm = s.vm := by rw [hA]; rfl
  have hhp : s'.heap = H := by rw [hA]; exact hT
  have hW0 : s.WarmedH s'.vm := by rw [hvm]; exact State.WarmedH.refl s
  have hat' : ∀ w ∈ vx_atS own ic cls names, w.before args s' = true := fun w hw => vx_ot_at hW0 hvm.symm (hgood w (List.mem_cons_of_mem _ (List.mem_cons_of_mem _ hw))) (hat w hw)
  have hk' : (Cond.classLink own ik cls).before args s' = true := vx_ot_at hW0 hvm.symm (hgood _ List.mem_cons_self) hk
  have hini' : (Cond.initialized cls).before args s' = true := vx_ot_at hW0 hvm.symm (hgood _ (List.mem_cons_of_mem _ List.mem_cons_self)) hini
  have hU' : vx_Zq Bundle.tN "UNASSIGNED_STACK" Bundle.steD A s' s'.heap := by rw [hhp]; exact vx_Zq.moved hW0.alike (hU.kept hS.2.1)
  have hN' : vx_Zq Bundle.tN "SUPPRESSED_SENTINEL" Bundle.listD A s' s'.heap := by rw [hhp]; exact vx_Zq.moved hW0.alike (hN.kept hS.2.1)
  have h : ∀ w ∈ Bundle.ownAtoms own ic cls names, w.before args s' = true := vx_own hat' (vx_isRefq hU'.1) (vx_isRefq hN'.1) hU'.2.word hN'.2.word
  have hown' : s'.vm.findClass own = some m.cls := by rw [hvm]; exact hown
  have hins : (Cond.instantiable cls 6).before args s' = true := h _ (by simp [Bundle.ownAtoms])
  obtain ⟨vm₁, cX, kX, hfX, hkX, -, -, X₁, st1⟩ := Y.newCold hexec (own := own) (C := cls) (index := ik) (n := 6) hown' hk' hins hini'
    (g := F0 m pc ls rest) rfl (by rw [hb]; exact d0) (Nat.le_refl _) (Nat.le_refl _)
  generalize hT1 : (T.setVm vm₁).pushCell { cls := cX, slots := kX.instanceTypes.map defaultValue, vm := .none } = T1 at X₁ st1
  have hcat : (Value.ref T.heap.size).category = 1 := rfl
  have hcellA : T1.heap[T.heap.size]? = some (freshCell cX kX) := by rw [← hT1]; exact State.heap_pushCell_size _ _
  have d3' : decode c.code (pc + 3) = .ok (.dup, 1) := by rw [hb]; exact d3
  have d4' : decode c.code (pc + 4) = .ok (.ldc is, 2) := by rw [hb]; exact d4
  have hstr' : vk_R own is text sa s' := vk_R.warm hW0 hstr
  obtain ⟨U, hsteps, hrun, hend, hW, hsame, ce, hce, hO⟩ := X₁.ctorThrowS hexec htr (own := own) (cls := cls) (names := names) (ic := ic) hown' hcls hnames h (fun x hx => nomatch hx) hfX hkX hcellA (by rw [hhp, hT]; exact Nat.le_refl _) (msg := .ref sa) rfl
    (g := { method := m, pc := pc + 6, locals := ls, stack := .ref sa :: .ref T.heap.size :: .ref T.heap.size :: rest, locked := none }) rfl hsize rfl rfl (rest := rest) rfl
    (by rw [hb]; exact d6) (by rw [hb]; exact d9) hout hRframes (by simp only [List.map_cons, List.sum_cons, hcat]; omega) hlocks
  obtain ⟨f1, f2⟩ := vx_frame hsame
  rw [hhp] at f1 f2
  have hWs : s.WarmedH U.vm := State.WarmedH.trans hW0 hW
  have hcl : s.vm.findClass cls = some ce.cls := by
    have h9 := hO.cls
    rw [hvm] at h9
    exact h9
  have hall : s.sameButNew ({ U with vm := s.vm } : State) locs mc ms := by
    subst hA
    obtain ⟨e1, e2⟩ := hsame
    rw [State.setFrames_setFrames] at e1
    have h2 : (T.setVm s.vm).sameButNew ({ U with vm := s.vm } : State) [] (0 + 1) (0 + 6) := ⟨e1, e2⟩
    have h3 := X.same.trans h2
    rw [List.append_nil] at h3
    exact h3.mono hc hs
  refine ⟨U, ?_, .threw T.heap.size, hrun, hend, Or.inr ⟨T.heap.size, rfl, cls, ce, locs, hx U hWs.alike f1 (fun q hq => f2 q hq (fun z hz => nomatch hz)), hce, hO.vm, hcl, hWs, hall, hf⟩⟩
  refine st1 _ ?_
  show Steps p.tables e below (T1.setTop { method := m, pc := pc + 3, locals := ls, stack := .ref T.heap.size :: rest, locked := none }) _
  jvm_step X₁.here [X₁.here.top, hexec, d3', Value.category]
  exact X₁.ldcString hexec (own := own) (text := text) (index := is) (a := sa) hown' hstr'.1 hstr'.2
    (g := { method := m, pc := pc + 4, locals := ls, stack := .ref T.heap.size :: .ref T.heap.size :: rest, locked := none }) rfl d4' _ hsteps
/-- 'throw new E("text")', the text by a wide index -/
theorem vx_throwSW {cc : ByteArray} {pc : Nat} (hexec : p.tables.exec = Jvm.exec) (hb : c.code = cc) (hl : l.stackTraces = false) {own cls text : String} {names : List String} {ik is ic mc ms sa : Nat} {A : Nat → Prop}
    (hown : s.vm.findClass own = some m.cls) (hcls : Bundle.fit cls = true) (hnames : ∀ n ∈ names, Bundle.fit n = true)
    (hk : (Cond.classLink own ik cls).before args s = true) (hini : (Cond.initialized cls).before args s = true) (hstr : vk_R own is text sa s) (hat : ∀ w ∈ vx_atS own ic cls names, w.before args s = true)
    (hgood : ∀ w ∈ Cond.classLink own ik cls :: Cond.initialized cls :: vx_atS own ic cls names, vx_ot w = true)
    (hU : vx_Zq Bundle.tN "UNASSIGNED_STACK" Bundle.steD A s s.heap) (hN : vx_Zq Bundle.tN "SUPPRESSED_SENTINEL" Bundle.listD A s s.heap) (hS : va_S A s.heap H locs) (hsize : ls.size = c.maxLocals)
    (d0 : decode cc pc = .ok (.new ik, 3)) (d3 : decode cc (pc + 3) = .ok (.dup, 1)) (d4 : decode cc (pc + 4) = .ok (.ldc_w is, 3)) (d7 : decode cc (pc + 7) = .ok (.invokespecial ic, 3)) (d10 : decode cc (pc + 10) = .ok (.athrow, 1))
    (hout : ∀ x ∈ c.exceptionTable.toList, covers x (pc + 10) = false)
    (hRframes : names.length + 3 < R.frames) (hRlocals : (rest.map fun v => v.category).sum + (13 * (names.length + 1) + 43) ≤ R.locals) (hRcells : cells + 1 ≤ R.cells) (hRslots : slots + 6 ≤ R.slots) (hlocks : meth.locks = false)
    (hx : ∀ t : State, s.vm.Alike t.vm → H.size ≤ t.heap.size → (∀ q : Nat, q < H.size → t.heap[q]? = H[q]?) → XC cls s t)
    (hf : ∀ z ∈ locs, free z.base) (hc : cells + 1 ≤ mc) (hs : slots + 6 ≤ ms) :
    W p l e R s m args below meth c H locs cells slots (vx_MQ below Qc XC args s mc ms free) (F0 m pc ls rest) := by
  intro T hT X
  have htr : e.platform.stackTraces = false := (show e.platform.stackTraces = l.stackTraces by rw [X.admits.platform]).trans hl
  have Y := vx_rebase X (R' := { frames := R.frames, locals := R.locals, cells := 1, slots := 6 }) (Nat.le_refl _) (Nat.le_refl _) hRcells hRslots
  obtain ⟨s', hA⟩ : ∃ z, z = (T.setVm s.vm).setFrames (.invoking m args :: below) := ⟨_, rfl⟩
  rw [← hA] at Y
  have hvm : s'.vm = s.vm := by rw [hA]; rfl
  have hhp : s'.heap = H := by rw [hA]; exact hT
  have hW0 : s.WarmedH s'.vm := by rw [hvm]; exact State.WarmedH.refl s
  have hat' : ∀ w ∈ vx_atS own ic cls names, w.before args s' = true := fun w hw => vx_ot_at hW0 hvm.symm (hgood w (List.mem_cons_of_mem _ (List.mem_cons_of_mem _ hw))) (hat w hw)
  have hk' : (Cond.classLink own ik cls).before args s' = true := vx_ot_at hW0 hvm.symm (hgood _ List.mem_cons_self) hk
  have hini' : (Cond.initialized cls).before args s' = true := vx_ot_at hW0 hvm.symm (hgood _ (List.mem_cons_of_mem _ List.mem_cons_self)) hini
  have hU' : vx_Zq Bundle.tN "UNASSIGNED_STACK" Bundle.steD A s' s'.heap := by rw [hhp]; exact vx_Zq.moved hW0.alike (hU.kept hS.2.1)
  have hN' : vx_Zq Bundle.tN "SUPPRESSED_SENTINEL" Bundle.listD A s' s'.heap := by rw [hhp]; exact vx_Zq.moved hW0.alike (hN.kept hS.2.1)
  have h : ∀ w ∈ Bundle.ownAtoms own ic cls names, w.before args s' = true := vx_own hat' (vx_isRefq hU'.1) (vx_isRefq hN'.1) hU'.2.word hN'.2.word
  have hown' : s'.vm.findClass own = some m.cls := by rw [hvm]; exact hown
  have hins : (Cond.instantiable cls 6).before args s' = true := h _ (by simp [Bundle.ownAtoms])
  obtain ⟨vm₁, cX, kX, hfX, hkX, -, -, X₁, st1⟩ := Y.newCold hexec (own := own) (C := cls) (index := ik) (n := 6) hown' hk' hins hini'
    (g := F0 m pc ls rest) rfl (by rw [hb]; exact d0) (Nat.le_refl _) (Nat.le_refl _)
  generalize hT1 : (T.setVm vm₁).pushCell { cls := cX, slots := kX.instanceTypes.map defaultValue, vm := .none } = T1 at X₁ st1
  have hcat : (Value.ref T.heap.size).category = 1 := rfl
  have hcellA : T1.heap[T.heap.size]? = some (freshCell cX kX) := by rw [← hT1]; exact State.heap_pushCell_size _ _
  have d3' : decode c.code (pc + 3) = .ok (.dup, 1) := by rw [hb]; exact d3
  have d4' : decode c.code (pc + 4) = .ok (.ldc_w is, 3) := by rw [hb]; exact d4
  have hstr' : vk_R own is text sa s' := vk_R.warm hW0 hstr
  obtain ⟨U, hsteps, hrun, hend, hW, hsame, ce, hce, hO⟩ := X₁.ctorThrowS hexec htr (own := own) (cls := cls) (names := names) (ic := ic) hown' hcls hnames h (fun x hx => nomatch hx) hfX hkX hcellA (by rw [hhp, hT]; exact Nat.le_refl _) (msg := .ref sa) rfl
    (g := { method := m, pc := pc + 7, locals := ls, stack := .ref sa :: .ref T.heap.size :: .ref T.heap.size :: rest, locked := none }) rfl hsize rfl rfl (rest := rest) rfl
    (by rw [hb]; exact d7) (by rw [hb]; exact d10) hout hRframes (by simp only [List.map_cons, List.sum_cons, hcat]; omega) hlocks
  obtain ⟨f1, f2⟩ := vx_frame hsame
  rw [hhp] at f1 f2
  have hWs : s.WarmedH U.vm := State.WarmedH.trans hW0 hW
  have hcl : s.vm.findClass cls = some ce.cls := by
    have h9 := hO.cls
    rw [hvm] at h9
    exact h9
  have hall : s.sameButNew ({ U with vm := s.vm } : State) locs mc ms := by
    subst hA
    obtain ⟨e1, e2⟩ := hsame
    rw [State.setFrames_setFrames] at e1
    have h2 : (T.setVm s.vm).sameButNew ({ U with vm := s.vm } : State) [] (0 + 1) (0 + 6) := ⟨e1, e2⟩
    have h3 := X.same.trans h2
    rw [List.append_nil] at h3
    exact h3.mono hc hs
  refine ⟨U, ?_, .threw T.heap.size, hrun, hend, Or.inr ⟨T.heap.size, rfl, cls, ce, locs, hx U hWs.alike f1 (fun q hq => f2 q hq (fun z hz => nomatch hz)), hce, hO.vm, hcl, hWs, hall, hf⟩⟩
  refine st1 _ ?_
  show Steps p.tables e below (T1.setTop { method := m, pc := pc + 3, locals := ls, stack := .ref T.heap.size :: rest, locked := none }) _
  jvm_step X₁.here [X₁.here.top, hexec, d3', Value.category]
  exact X₁.ldcStringW hexec (own := own) (text := text) (index := is) (a := sa) hown' hstr'.1 hstr'.2
    (g := { method := m, pc := pc + 4, locals := ls, stack := .ref T.heap.size :: .ref T.heap.size :: rest, locked := none }) rfl d4' _ hsteps
end Ends
section Bodies
variable {l : Launch}
theorem vx_ofW {y : MethodName} {ws ws' : List Cond} {rm : Room} {Pc : Array Value → State → Prop} {Qc : Array Value → State → Outcome → State → Prop} {XC : String → State → State → Prop} {mc ms : Nat} {free : Addr → Prop} {cc : ByteArray} {maxL : Nat} {ret : Option FieldType}
    (hy : plainName y.cls = true) (hw : ws = Cond.code y cc maxL ret :: ws')
    (body : ∀ p e s m args below meth c s₁, BodyLoose p l y (headSpec ws rm) cc maxL ret e s m args below meth c s₁ → c.maxLocals = maxL → (∀ x ∈ c.exceptionTable.toList, False) → Pc args s →
      W p l e (headSpec ws rm).room s m args below meth c s.heap [] 0 0 (vx_MQ below Qc XC args s mc ms free) (entryFrame m args maxL)) : vx_Met l y ws rm Pc Qc XC mc ms free := by
  refine MetFree.of_bodyS (code := cc) (maxLocals := maxL) (ret := ret) hy ?_ ?_
  · intro args s m h hn
    obtain ⟨meth, c, h1, h2, h3, h4, h5, h6, -, -⟩ := Cond.code_spec hn (atoms_spec (ws := ws) h _ (by rw [hw]; exact List.mem_cons_self))
    exact ⟨meth, c, h1, h2, h3, h4, h5, h6⟩
  · intro p e s m args below meth c s₁ B hml hP _
    have hh0 : s₁.heap = s.heap := by rw [B.state]; rfl
    have ht : ∀ x ∈ c.exceptionTable.toList, False := by
      obtain ⟨meth9, c9, h1, h2, -, -, -, -, h7, -⟩ := Cond.code_spec B.named (atoms_spec (ws := ws) B.pre _ (by rw [hw]; exact List.mem_cons_self))
      cases Option.some.inj (h1.symm.trans B.method)
      cases Option.some.inj (h2.symm.trans (Stand.of_body B).code)
      intro x hx
      rw [Array.isEmpty_iff.mp h7] at hx
      cases hx
    obtain ⟨t, a1, o, b1, b2, b3⟩ := body p e s m args below meth c s₁ B hml ht hP s₁ hh0 (Stand.of_body B)
    exact ⟨t, o, a1, b1, b2, b3⟩
/-- the table of a body with handlers -/
theorem vx_table {p : Program} {x y : MethodName} {S : Spec} {cc bytes : ByteArray} {maxL maxL' : Nat} {ret ret' : Option FieldType} {e : Env} {s s₁ : State} {m : MethodId} {args : Array Value} {below : List Frame} {meth : Method} {c : Code} {hh : List (Nat × Nat × Nat × Nat)}
    (B : BodyLoose p l y S cc maxL ret e s m args below meth c s₁) (h : (Cond.codeWith y bytes maxL' ret' hh).before args s = true) : c.exceptionTable.toList = tableOf hh := by
  obtain ⟨m9, meth9, c9, hn9, h1, h2, -, -, h6, -⟩ := Cond.codeWith_spec h
  cases Option.some.inj (hn9.symm.trans B.named)
  cases Option.some.inj (h1.symm.trans B.method)
  cases Option.some.inj (h2.symm.trans (Stand.of_body B).code)
  rw [← h6, table_eq]
end Bodies
end VXA
/-! ===== END ===== -/
/-! ===== BEGIN a static call of a method with an exception table ===== -/
section VXS
variable {p : Program} {l : Launch} {e : Env} {R : Room} {s : State} {m : MethodId} {args : Array Value} {below : List Frame} {meth : Method} {c : Code} {T : State} {H : Heap} {locs : List Loc} {cells slots : Nat}
abbrev vx_CSW (R : Room) (s : State) (args : Array Value) (own : String) (index : Nat) (y : MethodName) (bytes : ByteArray) (maxL : Nat) (ret : Option FieldType) (hh : List (Nat × Nat × Nat × Nat)) (ws : List Cond) (rm : Room) (mc ms n : Nat) : Prop :=
  (rm.cells = mc ∧ rm.slots = ms ∧ rm.frames + 1 ≤ R.frames ∧ 8 + (maxL + 11) + rm.locals ≤ R.locals ∧ (∀ w ∈ ws, ∀ (a' : Array Value) (U : State), s.WarmedH U.vm → w.before a' U = true) ∧ Cond.codeWith y bytes maxL ret hh ∈ ws) ∧
  (Cond.codeWith y bytes maxL ret hh).before args s = true ∧ (Cond.initialized y.cls).before args s = true ∧ (y.cls ≠ "java/lang/invoke/MethodHandle" ∧ y.cls ≠ "java/lang/invoke/VarHandle") ∧
  (∀ sig, parseMethodDescriptor y.desc = some sig → n = sig.parameters.length) ∧ (Cond.methodLink own index y).before args s = true ∧ (Cond.static y).before args s = true
theorem vx_cwSW {own : String} {index maxL mc ms : Nat} {y : MethodName} {bytes : ByteArray} {ret : Option FieldType} {hh : List (Nat × Nat × Nat × Nat)} {Ts ws ws' : List Cond} {rm : Room} (n : Nat) (ht : ∀ w ∈ Ts, w.before args s = true) (hT : GoodIn Ts (va_wsS own index y ws)) (hw : ws = Cond.codeWith y bytes maxL ret hh :: ws') (hrc : rm.cells = mc) (hrs : rm.slots = ms)
    (hd : y.cls ≠ "java/lang/invoke/MethodHandle" ∧ y.cls ≠ "java/lang/invoke/VarHandle" ∧ (parseMethodDescriptor y.desc).map (fun d => d.parameters.length) = some n) (hR : rm.frames + 1 ≤ R.frames ∧ 8 + (maxL + 11) + rm.locals ≤ R.locals) :
    vx_CSW R s args own index y bytes maxL ret hh ws rm mc ms n := by
  have ok : ∀ w ∈ va_wsS own index y ws, w.before args s = true := fun w h => ht w (hT w h).1
  have hG : GoodIn Ts ws := fun w h => hT w (by unfold va_wsS; exact List.mem_append_right _ h)
  have hc : Cond.codeWith y bytes maxL ret hh ∈ ws := by rw [hw]; exact List.mem_cons_self
  refine ⟨⟨hrc, hrs, hR.1, hR.2, pay_in ht hG, hc⟩, ht _ (hG _ hc).1, ok _ (by simp [va_wsS]), ⟨hd.1, hd.2.1⟩, fun sig h => ?_, ok _ (by simp [va_wsS]), ok _ (by simp [va_wsS])⟩
  have h2 := hd.2.2
  rw [h] at h2
  exact (Option.some.inj h2).symm
theorem vx_callSW (X : Stand p l e R s m args below meth c T locs cells slots) (hexec : p.tables.exec = Jvm.exec) {own : String} {index : Nat} {y : MethodName} {bytes : ByteArray} {maxL : Nat} {ret : Option FieldType} {hh : List (Nat × Nat × Nat × Nat)}
    (hown : s.vm.findClass own = some m.cls) (hlink : (Cond.methodLink own index y).before args s = true) (hstat : (Cond.static y).before args s = true) (hinit : (Cond.initialized y.cls).before args s = true)
    (hcode : (Cond.codeWith y bytes maxL ret hh).before args s = true) (hy : y.cls ≠ "java/lang/invoke/MethodHandle" ∧ y.cls ≠ "java/lang/invoke/VarHandle")
    {W9 : Nat} {Pre : Pt → Array Value → Prop} {Post : Pt → Array Value → Option Value → Pt → Prop} (hK : Back l R p e below s args y 3 W9 Pre Post)
    {g : JFrame} (hg : g.method = m) (hsize : g.locals.size = c.maxLocals) {argsL rest : List Value} (hlen : ∀ sig, parseMethodDescriptor y.desc = some sig → argsL.length = sig.parameters.length)
    (hstack : g.stack = argsL.reverse ++ rest) (hW : 2 * g.monitorRoom + (rest.map fun v => v.category).sum ≤ W9) (hdg : decode c.code g.pc = .ok (.invokestatic index, 3))
    (hpre : ∀ vm₁, s.WarmedH vm₁ → Pre ⟨T.setVm vm₁, locs, cells, slots⟩ argsL.toArray) :
    ∃ (v : Option Value) (vm₁ : Vm) (B : Pt), s.WarmedH vm₁ ∧ Stand p l e R s m args below meth c B.U B.locs B.cells B.slots ∧ Post ⟨T.setVm vm₁, locs, cells, slots⟩ argsL.toArray v B ∧
      ∀ target, Steps p.tables e below (B.U.setTop { g with pc := g.pc + 3, stack := v.toList ++ rest }) target → Steps p.tables e below (T.setTop g) target := by
  obtain ⟨mk, methM, cM, hnamed, hmethM, -, -, -, -, -, -, hsigM⟩ := Cond.codeWith_spec hcode
  have hstatic : methM.isStatic = true := Cond.static_spec hnamed hmethM hstat
  obtain ⟨kP, hkP, -⟩ := className_of_methodNamed hnamed
  have hinitP : kP.init = .initialized := Cond.initialized_spec (findClass_of_methodNamed hnamed) hkP hinit
  obtain ⟨vm₁, X₁, hstep₁⟩ := X.invokestatic hexec hown hlink hnamed hmethM hstatic hkP hinitP hy (g := g) hg (argsL := argsL) (rest := rest) (hlen _ hsigM) hstack hdg
  obtain ⟨v, B, X', hpost, hsteps⟩ := hK m meth c ⟨T.setVm vm₁, locs, cells, slots⟩ { g with stack := rest } (.invokestatic index) mk argsL.toArray X₁ hg hsize hdg hW (X₁.named hnamed) (hpre vm₁ X₁.warmed)
  exact ⟨v, vm₁, B, X₁.warmed, X', hpost, fun target h => hstep₁ _ fun acts => by rw [doInvoke_state]; exact hsteps.trans h⟩
theorem vx_runSW {y : MethodName} {bytes cc : ByteArray} {maxL nL mc ms n index : Nat} {ret : Option FieldType} {hh : List (Nat × Nat × Nat × Nat)} {ws : List Cond} {rm : Room} {Pc : Array Value → State → Prop} {Qc : Array Value → State → Outcome → State → Prop} {free : Addr → Prop} {Ts : List Cond} {own : String} {As rest : List Value} {g : JFrame}
    (S : CallFix p m c cc nL s args Ts own) (hM : Met l y ws rm Pc Qc mc ms free) (cw : vx_CSW R s args own index y bytes maxL ret hh ws rm mc ms n) (hp : PreS s H Pc As)
    (hg : g.method = m) (hn : As.length = n) (hsize : g.locals.size = nL) (hstack : g.stack = As.reverse ++ rest) (hW : 2 * g.monitorRoom + (rest.map fun v => v.category).sum ≤ 8) (hdg : decode cc g.pc = .ok (.invokestatic index, 3)) (hf : cells + mc ≤ R.cells ∧ slots + ms ≤ R.slots) :
    va_Run p l e R s m args below meth c H locs cells slots mc ms g rest (Qc As.toArray) (free) := by
  obtain ⟨⟨hrc, hrs, hfr, hlo, hws, hcw⟩, hcode, hini, hy, hlen, hl, hstt⟩ := cw
  have hK : Back l R p e below s args y 3 8 (PreOf R mc ms Pc) (PostOf Qc mc ms free) := va_backW (hh := hh) (bytes := bytes) (maxL := maxL) (ret := ret) hM hp.1 hrc hrs hfr hlo hws hcw (fun a' U hW => word_at hW (Or.inl (by first | rfl | simp [Cond.onTables, Cond.keeps, Cond.steady])) hini)
  obtain ⟨hx, hb, hml, ho, -⟩ := S
  intro T hT X
  obtain ⟨v, vm₁, ⟨U', l2, c2, s2⟩, hW₁, X', ⟨g', mk, t, L, e1, e2, hq, h1, hL, h2, h3⟩, st⟩ := vx_callSW X hx (hh := hh) (bytes := bytes) (maxL := maxL) (ret := ret) ho hl hstt hini hcode hy hK hg (hsize.trans hml.symm) (argsL := As) (rest := rest) (fun sig h => hn.trans (hlen sig h)) hstack hW (by rw [hb]; exact hdg)
    (fun vm₁ hW₁ => ⟨hf.1, hf.2, hp.2 (T.setVm vm₁) hT hW₁⟩)
  dsimp only [Pt.U, Pt.locs, Pt.cells, Pt.slots] at X' e1 e2 h1 h2 h3 st
  subst h1; subst h2; subst h3
  exact ⟨v, (T.setVm vm₁).calling g' mk As.toArray, t, U', L, hT, X', hL, e1, e2, hq, st⟩
/-- a thing of a world lies in the heap -/
theorem vx_lt {D : va_G} {cl : List vw_C} {ws : va_W} {H1 : Heap} (h : va_P D cl ws H1) {k : Nat} {q : Nat × va_E} (hk : ws[k]? = some q) : q.1 < H1.size := (h k q hk).lt
end VXS
/-! ===== END ===== -/
/-! ===== BEGIN methods with a table of their own: called by a name, returning or throwing ===== -/
section VXH
/-! vx_backW, vx_callVX, vx_callSX, vx_callVW, vx_runVW, vx_runVX, vx_runSX, vx_ofWH follow the same proofs as their sisters above (Free/Laws.lean, Shelf42/LK1.lean); vx_outP calls Shelf42/NT130.lean (outThrough). -/
section
variable {l : Launch} {R : Room} {p : Program} {e : Env} {below : List Frame} {s : State} {sargs : Array Value} {y : MethodName} {len W9 : Nat}
theorem vx_backW {ws : List Cond} {rm : Room} {Pc : Array Value → State → Prop} {Qc : Array Value → State → Outcome → State → Prop} {XC : String → State → State → Prop} {mc ms : Nat} {free : Addr → Prop} {bytes : ByteArray} {maxL : Nat} {ret : Option FieldType} {hh : List (Nat × Nat × Nat × Nat)}
    (hM : vx_Met l y ws rm Pc Qc XC mc ms free) (hblind : FrameBlind Pc) (hrc : rm.cells = mc) (hrs : rm.slots = ms)
    (hframes : rm.frames + 1 ≤ R.frames) (hlocals : W9 + (maxL + 11) + rm.locals ≤ R.locals)
    (hws : ∀ w ∈ ws, ∀ a' U, s.WarmedH U.vm → w.before a' U = true) (hcode : Cond.codeWith y bytes maxL ret hh ∈ ws) (hinit : ∀ a' U, s.WarmedH U.vm → (Cond.initialized y.cls).before a' U = true) :
    vx_Back l R p e below s sargs y len W9 (PreOf R mc ms Pc) (PostOf Qc mc ms free) (vx_Post XC mc ms free) := by
  intro m meth c A g ig mk a X hg hsize hdg hW hn hp
  have h1 : (headSpec ws rm).pre.before a A.U = true := atoms_intro fun w hw => hws w hw _ _ X.warmed
  have h2 : (Cond.codeWith y bytes maxL ret hh).before a A.U = true := hws _ hcode _ _ X.warmed
  have h3 : (Cond.initialized y.cls).before a A.U = true := hinit _ _ X.warmed
  have h4 : A.cells + (headSpec ws rm).room.cells ≤ R.cells := by rw [show (headSpec ws rm).room.cells = mc from hrc]; exact hp.1
  have h5 : A.slots + (headSpec ws rm).room.slots ≤ R.slots := by rw [show (headSpec ws rm).room.slots = ms from hrs]; exact hp.2.1
  have hPc : Pc a (A.U.calling g mk a) := hblind _ _ _ _ hp.2.2
  obtain ⟨U, Ls, c0, s0⟩ := A
  dsimp only [Pt.U, Pt.locs, Pt.cells, Pt.slots] at h1 h2 h3 h4 h5 X hn hPc ⊢
  obtain ⟨m9, methY, cY, hn9, hmY, hcY, -, hlY, -⟩ := Cond.codeWith_spec h2
  cases Option.some.inj (hn9.symm.trans hn)
  obtain ⟨kY, hkY, -⟩ := className_of_methodNamed hn
  have hinitY : kY.init = .initialized := Cond.initialized_spec (findClass_of_methodNamed hn) hkY h3
  have h : At U g.method c below := by rw [hg]; exact X.here
  have hlocals9 : W9 + (maxL + 11) + (headSpec ws rm).room.locals ≤ R.locals := hlocals
  have happ : (headSpec ws rm).appliesLoose y e.platform (U.calling g mk a) = true :=
    Spec.appliesLoose_calling (g := g) h hdg hn hkY hinitY
      (X.room_calling (g := g) (R' := (headSpec ws rm).room) hsize hmY hcY hframes (by rw [hlY]; omega) h4 h5) h1
  obtain ⟨mid, hmid⟩ := h.above
  have hfr : (U.setTop g).frames = (.java g :: mid) ++ below := by rw [State.frames_setTop' g h.top, hmid]; rfl
  obtain ⟨o, s₂, hsteps, -, hend, hq⟩ := Steps.callFree hM p X.admits X.cas X.clock (acts := []) hfr happ hPc trivial
  have hq' : vx_Q Qc XC mc ms free a (U.calling g mk a) o s₂ := hq
  rw [State.frames_setTop' g h.top] at hend
  obtain ⟨g₀, hg0⟩ := Option.isSome_iff_exists.mp h.top
  obtain ⟨r, hr⟩ := State.topJava?_eq_some.mp hg0
  have hr' : (({ U with heap := s₂.heap, slotsUsed := s₂.slotsUsed } : State).setVm s₂.vm).frames = .java g₀ :: r := hr
  rcases hq' with ⟨hqc, L, hfe, hL⟩ | ⟨q, rfl, E, ce, L, hx, hce, hcv, hcl, hW₂, hsm, hL⟩
  · obtain ⟨⟨v, rfl⟩, hW₂, e2, q2, q3, q4, q5, q6⟩ := id hfe
    have e3 : s₂ = ({ (U.calling g mk a).setFrames s₂.frames with heap := s₂.heap, slotsUsed := s₂.slotsUsed } : State).setVm s₂.vm := by
      have : s₂ = ({ s₂ with vm := (U.calling g mk a).vm } : State).setVm s₂.vm := rfl
      rw [e2] at this
      exact this
    obtain ⟨c₂, i₂, len₂, hc₂, hd₂, hf₂⟩ := hend
    have hW' : U.WarmedH s₂.vm := hW₂
    have hcc : c₂ = c := by
      have h1 : s₂.code? g.method = U.code? g.method := by
        rw [State.code?_eq, State.code?_eq, hW'.alike.method?]
      exact Option.some.inj (hc₂.symm.trans (h1.trans h.code))
    subst hcc
    have hlen : len₂ = len := by rw [hdg] at hd₂; cases hd₂; rfl
    subst hlen
    have hs₂ : s₂ = (({ U with heap := s₂.heap, slotsUsed := s₂.slotsUsed } : State).setVm s₂.vm).setTop { g with pc := g.pc + len₂, stack := v.toList ++ g.stack } := by
      refine e3.trans ?_
      rw [hf₂, State.calling_eq h.top, State.setFrames_setFrames, State.setTop_of_frames _ hr', hr]
      rfl
    have hsame : U.sameButNew ({ U with heap := s₂.heap, slotsUsed := s₂.slotsUsed } : State) L mc ms := by
      refine ⟨?_, q2, q3, q4, q5, q6⟩
      obtain ⟨t, ht, -⟩ := State.frames_cons hr
      show ({ U with heap := s₂.heap, slotsUsed := s₂.slotsUsed } : State) = { U.setFrames U.frames with heap := s₂.heap, slotsUsed := s₂.slotsUsed }
      rw [State.setFrames_self ht]
    subst hg
    refine Or.inl ⟨v, ⟨(({ U with heap := s₂.heap, slotsUsed := s₂.slotsUsed } : State).setVm s₂.vm), Ls ++ L, c0 + mc, s0 + ms⟩,
      ⟨X.admits, X.cas, X.clock, X.frames, X.room, X.hears, X.method, X.code, (X.here.setHeapUsed s₂.heap s₂.slotsUsed).setVm hW'.alike, X.tail, State.WarmedH.trans X.warmed hW', X.limits, X.bytes, X.same.trans (hsame.setVm s.vm)⟩,
      ⟨g, mk, s₂, L, rfl, rfl, hqc, rfl, hL, rfl, rfl⟩, ?_⟩
    show Steps p.tables e below _ ((({ U with heap := s₂.heap, slotsUsed := s₂.slotsUsed } : State).setVm s₂.vm).setTop { g with pc := g.pc + len₂, stack := v.toList ++ g.stack })
    rw [← hs₂]
    exact hsteps
  · obtain ⟨e2, q2, q3, q4, q5, q6⟩ := id hsm
    have e3 : s₂ = ({ (U.calling g mk a).setFrames s₂.frames with heap := s₂.heap, slotsUsed := s₂.slotsUsed } : State).setVm s₂.vm := by
      have : s₂ = ({ s₂ with vm := (U.calling g mk a).vm } : State).setVm s₂.vm := rfl
      rw [e2] at this
      exact this
    have hf₂ : s₂.frames = .throwing q :: .java g :: U.frames.tail := hend
    have hW' : U.WarmedH s₂.vm := hW₂
    have hs₂ : s₂ = ((({ U with heap := s₂.heap, slotsUsed := s₂.slotsUsed } : State).setVm s₂.vm).setTop g).pushFrame (.throwing q) := by
      refine e3.trans ?_
      rw [hf₂, State.calling_eq h.top, State.setFrames_setFrames, State.pushFrame, State.frames_setTop _ hr', State.setTop_of_frames _ hr', State.setFrames_setFrames, hr]
      rfl
    have hsame : U.sameButNew ({ U with heap := s₂.heap, slotsUsed := s₂.slotsUsed } : State) L mc ms := by
      refine ⟨?_, q2, q3, q4, q5, q6⟩
      obtain ⟨t, ht, -⟩ := State.frames_cons hr
      show ({ U with heap := s₂.heap, slotsUsed := s₂.slotsUsed } : State) = { U.setFrames U.frames with heap := s₂.heap, slotsUsed := s₂.slotsUsed }
      rw [State.setFrames_self ht]
    subst hg
    refine Or.inr ⟨q, ⟨(({ U with heap := s₂.heap, slotsUsed := s₂.slotsUsed } : State).setVm s₂.vm), Ls ++ L, c0 + mc, s0 + ms⟩,
      ⟨X.admits, X.cas, X.clock, X.frames, X.room, X.hears, X.method, X.code, (X.here.setHeapUsed s₂.heap s₂.slotsUsed).setVm hW'.alike, X.tail, State.WarmedH.trans X.warmed hW', X.limits, X.bytes, X.same.trans (hsame.setVm s.vm)⟩,
      ⟨g, mk, s₂, L, E, ce, rfl, rfl, hx, hce, hcv, hcl, rfl, hL, rfl, rfl⟩, ?_⟩
    show Steps p.tables e below _ (((({ U with heap := s₂.heap, slotsUsed := s₂.slotsUsed } : State).setVm s₂.vm).setTop g).pushFrame (.throwing q))
    rw [← hs₂]
    exact hsteps
end
variable {p : Program} {l : Launch} {e : Env} {R : Room} {s : State} {m : MethodId} {args : Array Value} {below : List Frame} {meth : Method} {c : Code} {T : State} {H : Heap} {locs : List Loc} {cells slots : Nat}
theorem vx_callVX (X : Stand p l e R s m args below meth c T locs cells slots) (hexec : p.tables.exec = Jvm.exec) {own C : String} {index : Nat} {y : MethodName} {bytes : ByteArray} {maxL : Nat} {ret : Option FieldType} {hh : List (Nat × Nat × Nat × Nat)}
    (hown : s.vm.findClass own = some m.cls) (hlink : (Cond.methodLink own index y).before args s = true) (hinst : (Cond.instanceMethod y).before args s = true) (hsel : (Cond.selects C y y).before args s = true)
    (hcode : (Cond.codeWith y bytes maxL ret hh).before args s = true) (hy : y.cls ≠ "java/lang/invoke/MethodHandle" ∧ y.cls ≠ "java/lang/invoke/VarHandle")
    {W9 : Nat} {Pre : Pt → Array Value → Prop} {Post : Pt → Array Value → Option Value → Pt → Prop} {PostX : Pt → Array Value → Addr → Pt → Prop} (hK : vx_Back l R p e below s args y 3 W9 Pre Post PostX)
    {b : Addr} {cellB : Cell} (hcell : T.heap[b]? = some cellB) (hobj : cellB.vm.isStatics = false) (hcls : s.vm.findClass C = some cellB.cls)
    {g : JFrame} (hg : g.method = m) (hsize : g.locals.size = c.maxLocals) {argsL rest : List Value} (hlen : ∀ sig, parseMethodDescriptor y.desc = some sig → argsL.length = sig.parameters.length)
    (hstack : g.stack = argsL.reverse ++ .ref b :: rest) (hW : 2 * g.monitorRoom + (rest.map fun v => v.category).sum ≤ W9) (hdg : decode c.code g.pc = .ok (.invokevirtual index, 3))
    (hpre : ∀ vm₁, s.WarmedH vm₁ → Pre ⟨T.setVm vm₁, locs, cells, slots⟩ (Value.ref b :: argsL).toArray) :
    (∃ (v : Option Value) (vm₁ : Vm) (B : Pt), s.WarmedH vm₁ ∧ Stand p l e R s m args below meth c B.U B.locs B.cells B.slots ∧ Post ⟨T.setVm vm₁, locs, cells, slots⟩ (Value.ref b :: argsL).toArray v B ∧
      ∀ target, Steps p.tables e below (B.U.setTop { g with pc := g.pc + 3, stack := v.toList ++ rest }) target → Steps p.tables e below (T.setTop g) target) ∨
    (∃ (q : Addr) (vm₁ : Vm) (B : Pt), s.WarmedH vm₁ ∧ Stand p l e R s m args below meth c B.U B.locs B.cells B.slots ∧ PostX ⟨T.setVm vm₁, locs, cells, slots⟩ (Value.ref b :: argsL).toArray q B ∧
      Steps p.tables e below (T.setTop g) ((B.U.setTop { g with stack := rest }).pushFrame (.throwing q))) := by
  obtain ⟨mk, methM, hnamed, hmethM, hstM, habM⟩ := Cond.instanceMethod_spec hinst
  obtain ⟨m8, methM', cM, hn8, hmethM', -, -, -, -, -, -, hsigM⟩ := Cond.codeWith_spec hcode
  cases Option.some.inj (hn8.symm.trans hnamed)
  cases hmethM.symm.trans hmethM'
  obtain ⟨c2, r2, m2, q1, q2, q3, q4, kP, hkP, hkPi⟩ := Cond.selects_spec hsel
  cases hcls.symm.trans q1
  cases (State.methodFound?_of_named hnamed hy).symm.trans q2
  cases hnamed.symm.trans q3
  have hselP : selectMethod e.platform s.vm cellB.cls mk = .method mk := by rw [Launch.admits_selectMethod X.admits]; exact q4
  obtain ⟨vm₁, X₁, hstep₁⟩ := X.invokevirtual hexec hown hlink hnamed hmethM hstM hkP hkPi hy (a := b) (cell := cellB) hcell
    (fun z h => by rw [h] at hobj; cases hobj) hselP hmethM habM hkP hkPi (g := g) hg (argsL := argsL) (rest := rest) (hlen _ hsigM) hstack hdg
  rcases hK m meth c ⟨T.setVm vm₁, locs, cells, slots⟩ { g with stack := rest } (.invokevirtual index) mk (Value.ref b :: argsL).toArray X₁ hg hsize hdg hW (X₁.named hnamed) (hpre vm₁ X₁.warmed) with ⟨v, B, X', hpost, hsteps⟩ | ⟨q, B, X', hpost, hsteps⟩
  · exact Or.inl ⟨v, vm₁, B, X₁.warmed, X', hpost, fun target h => hstep₁ _ fun acts => by rw [doInvoke_state]; exact hsteps.trans h⟩
  · exact Or.inr ⟨q, vm₁, B, X₁.warmed, X', hpost, hstep₁ _ fun acts => by rw [doInvoke_state]; exact hsteps⟩
theorem vx_callSX (X : Stand p l e R s m args below meth c T locs cells slots) (hexec : p.tables.exec = Jvm.exec) {own : String} {index : Nat} {y : MethodName} {bytes : ByteArray} {maxL : Nat} {ret : Option FieldType} {hh : List (Nat × Nat × Nat × Nat)}
    (hown : s.vm.findClass own = some m.cls) (hlink : (Cond.methodLink own index y).before args s = true) (hstat : (Cond.static y).before args s = true) (hinit : (Cond.initialized y.cls).before args s = true)
    (hcode : (Cond.codeWith y bytes maxL ret hh).before args s = true) (hy : y.cls ≠ "java/lang/invoke/MethodHandle" ∧ y.cls ≠ "java/lang/invoke/VarHandle")
    {W9 : Nat} {Pre : Pt → Array Value → Prop} {Post : Pt → Array Value → Option Value → Pt → Prop} {PostX : Pt → Array Value → Addr → Pt → Prop} (hK : vx_Back l R p e below s args y 3 W9 Pre Post PostX)
    {g : JFrame} (hg : g.method = m) (hsize : g.locals.size = c.maxLocals) {argsL rest : List Value} (hlen : ∀ sig, parseMethodDescriptor y.desc = some sig → argsL.length = sig.parameters.length)
    (hstack : g.stack = argsL.reverse ++ rest) (hW : 2 * g.monitorRoom + (rest.map fun v => v.category).sum ≤ W9) (hdg : decode c.code g.pc = .ok (.invokestatic index, 3))
    (hpre : ∀ vm₁, s.WarmedH vm₁ → Pre ⟨T.setVm vm₁, locs, cells, slots⟩ argsL.toArray) :
    (∃ (v : Option Value) (vm₁ : Vm) (B : Pt), s.WarmedH vm₁ ∧ Stand p l e R s m args below meth c B.U B.locs B.cells B.slots ∧ Post ⟨T.setVm vm₁, locs, cells, slots⟩ argsL.toArray v B ∧
      ∀ target, Steps p.tables e below (B.U.setTop { g with pc := g.pc + 3, stack := v.toList ++ rest }) target → Steps p.tables e below (T.setTop g) target) ∨
    (∃ (q : Addr) (vm₁ : Vm) (B : Pt), s.WarmedH vm₁ ∧ Stand p l e R s m args below meth c B.U B.locs B.cells B.slots ∧ PostX ⟨T.setVm vm₁, locs, cells, slots⟩ argsL.toArray q B ∧
      Steps p.tables e below (T.setTop g) ((B.U.setTop { g with stack := rest }).pushFrame (.throwing q))) := by
  obtain ⟨mk, methM, cM, hnamed, hmethM, -, -, -, -, -, -, hsigM⟩ := Cond.codeWith_spec hcode
  have hstatic : methM.isStatic = true := Cond.static_spec hnamed hmethM hstat
  obtain ⟨kP, hkP, -⟩ := className_of_methodNamed hnamed
  have hinitP : kP.init = .initialized := Cond.initialized_spec (findClass_of_methodNamed hnamed) hkP hinit
  obtain ⟨vm₁, X₁, hstep₁⟩ := X.invokestatic hexec hown hlink hnamed hmethM hstatic hkP hinitP hy (g := g) hg (argsL := argsL) (rest := rest) (hlen _ hsigM) hstack hdg
  rcases hK m meth c ⟨T.setVm vm₁, locs, cells, slots⟩ { g with stack := rest } (.invokestatic index) mk argsL.toArray X₁ hg hsize hdg hW (X₁.named hnamed) (hpre vm₁ X₁.warmed) with ⟨v, B, X', hpost, hsteps⟩ | ⟨q, B, X', hpost, hsteps⟩
  · exact Or.inl ⟨v, vm₁, B, X₁.warmed, X', hpost, fun target h => hstep₁ _ fun acts => by rw [doInvoke_state]; exact hsteps.trans h⟩
  · exact Or.inr ⟨q, vm₁, B, X₁.warmed, X', hpost, hstep₁ _ fun acts => by rw [doInvoke_state]; exact hsteps⟩
theorem vx_callVW (X : Stand p l e R s m args below meth c T locs cells slots) (hexec : p.tables.exec = Jvm.exec) {own C : String} {index : Nat} {y : MethodName} {bytes : ByteArray} {maxL : Nat} {ret : Option FieldType} {hh : List (Nat × Nat × Nat × Nat)}
    (hown : s.vm.findClass own = some m.cls) (hlink : (Cond.methodLink own index y).before args s = true) (hinst : (Cond.instanceMethod y).before args s = true) (hsel : (Cond.selects C y y).before args s = true)
    (hcode : (Cond.codeWith y bytes maxL ret hh).before args s = true) (hy : y.cls ≠ "java/lang/invoke/MethodHandle" ∧ y.cls ≠ "java/lang/invoke/VarHandle")
    {W9 : Nat} {Pre : Pt → Array Value → Prop} {Post : Pt → Array Value → Option Value → Pt → Prop} (hK : Back l R p e below s args y 3 W9 Pre Post)
    {b : Addr} {cellB : Cell} (hcell : T.heap[b]? = some cellB) (hobj : cellB.vm.isStatics = false) (hcls : s.vm.findClass C = some cellB.cls)
    {g : JFrame} (hg : g.method = m) (hsize : g.locals.size = c.maxLocals) {argsL rest : List Value} (hlen : ∀ sig, parseMethodDescriptor y.desc = some sig → argsL.length = sig.parameters.length)
    (hstack : g.stack = argsL.reverse ++ .ref b :: rest) (hW : 2 * g.monitorRoom + (rest.map fun v => v.category).sum ≤ W9) (hdg : decode c.code g.pc = .ok (.invokevirtual index, 3))
    (hpre : ∀ vm₁, s.WarmedH vm₁ → Pre ⟨T.setVm vm₁, locs, cells, slots⟩ (Value.ref b :: argsL).toArray) :
    ∃ (v : Option Value) (vm₁ : Vm) (B : Pt), s.WarmedH vm₁ ∧ Stand p l e R s m args below meth c B.U B.locs B.cells B.slots ∧ Post ⟨T.setVm vm₁, locs, cells, slots⟩ (Value.ref b :: argsL).toArray v B ∧
      ∀ target, Steps p.tables e below (B.U.setTop { g with pc := g.pc + 3, stack := v.toList ++ rest }) target → Steps p.tables e below (T.setTop g) target := by
  obtain ⟨mk, methM, hnamed, hmethM, hstM, habM⟩ := Cond.instanceMethod_spec hinst
  obtain ⟨m8, methM', cM, hn8, hmethM', -, -, -, -, -, -, hsigM⟩ := Cond.codeWith_spec hcode
  cases Option.some.inj (hn8.symm.trans hnamed)
  cases hmethM.symm.trans hmethM'
  obtain ⟨c2, r2, m2, q1, q2, q3, q4, kP, hkP, hkPi⟩ := Cond.selects_spec hsel
  cases hcls.symm.trans q1
  cases (State.methodFound?_of_named hnamed hy).symm.trans q2
  cases hnamed.symm.trans q3
  have hselP : selectMethod e.platform s.vm cellB.cls mk = .method mk := by rw [Launch.admits_selectMethod X.admits]; exact q4
  obtain ⟨vm₁, X₁, hstep₁⟩ := X.invokevirtual hexec hown hlink hnamed hmethM hstM hkP hkPi hy (a := b) (cell := cellB) hcell
    (fun z h => by rw [h] at hobj; cases hobj) hselP hmethM habM hkP hkPi (g := g) hg (argsL := argsL) (rest := rest) (hlen _ hsigM) hstack hdg
  obtain ⟨v, B, X', hpost, hsteps⟩ := hK m meth c ⟨T.setVm vm₁, locs, cells, slots⟩ { g with stack := rest } (.invokevirtual index) mk (Value.ref b :: argsL).toArray X₁ hg hsize hdg hW (X₁.named hnamed) (hpre vm₁ X₁.warmed)
  exact ⟨v, vm₁, B, X₁.warmed, X', hpost, fun target h => hstep₁ _ fun acts => by rw [doInvoke_state]; exact hsteps.trans h⟩
abbrev vx_CVW (R : Room) (s : State) (args : Array Value) (own C : String) (index : Nat) (y : MethodName) (bytes : ByteArray) (maxL : Nat) (ret : Option FieldType) (hh : List (Nat × Nat × Nat × Nat)) (ws : List Cond) (rm : Room) (mc ms n : Nat) : Prop :=
  (rm.cells = mc ∧ rm.slots = ms ∧ rm.frames + 1 ≤ R.frames ∧ 8 + (maxL + 11) + rm.locals ≤ R.locals ∧ (∀ w ∈ ws, ∀ (a' : Array Value) (U : State), s.WarmedH U.vm → w.before a' U = true) ∧ Cond.codeWith y bytes maxL ret hh ∈ ws) ∧
  (Cond.codeWith y bytes maxL ret hh).before args s = true ∧ (Cond.initialized y.cls).before args s = true ∧ (y.cls ≠ "java/lang/invoke/MethodHandle" ∧ y.cls ≠ "java/lang/invoke/VarHandle") ∧
  (∀ sig, parseMethodDescriptor y.desc = some sig → n = sig.parameters.length) ∧ (Cond.methodLink own index y).before args s = true ∧ (Cond.instanceMethod y).before args s = true ∧ (Cond.selects C y y).before args s = true
theorem vx_cwVW {own C : String} {index maxL mc ms : Nat} {y : MethodName} {bytes : ByteArray} {ret : Option FieldType} {hh : List (Nat × Nat × Nat × Nat)} {Ts ws ws' : List Cond} {rm : Room} (n : Nat) (ht : ∀ w ∈ Ts, w.before args s = true) (hT : GoodIn Ts (wsV own index C y ws)) (hw : ws = Cond.codeWith y bytes maxL ret hh :: ws') (hrc : rm.cells = mc) (hrs : rm.slots = ms)
    (hd : y.cls = C ∧ y.cls ≠ "java/lang/invoke/MethodHandle" ∧ y.cls ≠ "java/lang/invoke/VarHandle" ∧ (parseMethodDescriptor y.desc).map (fun d => d.parameters.length) = some n) (hR : rm.frames + 1 ≤ R.frames ∧ 8 + (maxL + 11) + rm.locals ≤ R.locals) :
    vx_CVW R s args own C index y bytes maxL ret hh ws rm mc ms n := by
  obtain ⟨hC, hd⟩ := hd
  subst hC
  have ok : ∀ w ∈ wsV own index y.cls y ws, w.before args s = true := fun w h => ht w (hT w h).1
  have hG : GoodIn Ts ws := fun w h => hT w (by unfold wsV; exact List.mem_append_right _ h)
  have hc : Cond.codeWith y bytes maxL ret hh ∈ ws := by rw [hw]; exact List.mem_cons_self
  refine ⟨⟨hrc, hrs, hR.1, hR.2, pay_in ht hG, hc⟩, ht _ (hG _ hc).1, ok _ (by simp [wsV]), ⟨hd.1, hd.2.1⟩, fun sig h => ?_, ok _ (by simp [wsV]), ok _ (by simp [wsV]), ok _ (by simp [wsV])⟩
  have h2 := hd.2.2
  rw [h] at h2
  exact (Option.some.inj h2).symm
theorem vx_runVW {y : MethodName} {bytes cc : ByteArray} {maxL nL mc ms n index : Nat} {ret : Option FieldType} {hh : List (Nat × Nat × Nat × Nat)} {ws : List Cond} {rm : Room} {Pc : Array Value → State → Prop} {Qc : Array Value → State → Outcome → State → Prop} {free : Addr → Prop} {Ts : List Cond} {own C : String} {b : Addr} {As rest : List Value} {g : JFrame}
    (S : CallFix p m c cc nL s args Ts own) (hM : Met l y ws rm Pc Qc mc ms free) (cw : vx_CVW R s args own C index y bytes maxL ret hh ws rm mc ms n) (hp : PreV s H C b Pc As)
    (hg : g.method = m) (hn : As.length = n) (hsize : g.locals.size = nL) (hstack : g.stack = As.reverse ++ .ref b :: rest) (hW : 2 * g.monitorRoom + (rest.map fun v => v.category).sum ≤ 8) (hdg : decode cc g.pc = .ok (.invokevirtual index, 3)) (hf : cells + mc ≤ R.cells ∧ slots + ms ≤ R.slots) :
    va_Run p l e R s m args below meth c H locs cells slots mc ms g rest (Qc (Value.ref b :: As).toArray) free := by
  obtain ⟨⟨hrc, hrs, hfr, hlo, hws, hcw⟩, hcode, hini, hy, hlen, hl, hin, hse⟩ := cw
  have hK : Back l R p e below s args y 3 8 (PreOf R mc ms Pc) (PostOf Qc mc ms free) := va_backW (hh := hh) (bytes := bytes) (maxL := maxL) (ret := ret) hM hp.1 hrc hrs hfr hlo hws hcw (fun a' U hW => word_at hW (Or.inl (by first | rfl | simp [Cond.onTables, Cond.keeps, Cond.steady])) hini)
  obtain ⟨hx, hb, hml, ho, -⟩ := S
  obtain ⟨-, ⟨cellB, hcB, hoB, hclB⟩, hPc⟩ := hp
  intro T hT X
  obtain ⟨v, vm₁, ⟨U', l2, c2, s2⟩, hW₁, X', ⟨g', mk, t, L, e1, e2, hq, h1, hL, h2, h3⟩, st⟩ := vx_callVW X hx (C := C) (hh := hh) (bytes := bytes) (maxL := maxL) (ret := ret) ho hl hin hse hcode hy hK (by rw [hT]; exact hcB) hoB hclB hg (hsize.trans hml.symm) (argsL := As) (rest := rest) (fun sig h => hn.trans (hlen sig h)) hstack hW (by rw [hb]; exact hdg)
    (fun vm₁ hW₁ => ⟨hf.1, hf.2, hPc (T.setVm vm₁) hT hW₁⟩)
  dsimp only [Pt.U, Pt.locs, Pt.cells, Pt.slots] at X' e1 e2 h1 h2 h3 st
  subst h1; subst h2; subst h3
  exact ⟨v, (T.setVm vm₁).calling g' mk (Value.ref b :: As).toArray, t, U', L, hT, X', hL, e1, e2, hq, st⟩
section
variable {y : MethodName} {bytes cc : ByteArray} {maxL nL mc ms n index : Nat} {ret : Option FieldType} {ws : List Cond} {rm : Room} {Pc : Array Value → State → Prop} {Qc : Array Value → State → Outcome → State → Prop} {XC : String → State → State → Prop} {free : Addr → Prop} {Ts : List Cond} {own C : String} {b : Addr} {As rest : List Value} {g : JFrame}
theorem vx_runVX {hh : List (Nat × Nat × Nat × Nat)} (S : CallFix p m c cc nL s args Ts own) (hM : vx_Met l y ws rm Pc Qc XC mc ms free) (cw : vx_CVW R s args own C index y bytes maxL ret hh ws rm mc ms n) (hp : PreV s H C b Pc As)
    (hg : g.method = m) (hn : As.length = n) (hsize : g.locals.size = nL) (hstack : g.stack = As.reverse ++ .ref b :: rest) (hW : 2 * g.monitorRoom + (rest.map fun v => v.category).sum ≤ 8) (hdg : decode cc g.pc = .ok (.invokevirtual index, 3)) (hf : cells + mc ≤ R.cells ∧ slots + ms ≤ R.slots) :
    vx_Run p l e R s m args below meth c H locs cells slots mc ms g rest (Qc (Value.ref b :: As).toArray) XC free := by
  obtain ⟨⟨hrc, hrs, hfr, hlo, hws, hcw⟩, hcode, hini, hy, hlen, hl, hin, hse⟩ := cw
  have hK : vx_Back l R p e below s args y 3 8 (PreOf R mc ms Pc) (PostOf Qc mc ms free) (vx_Post XC mc ms free) := vx_backW (hh := hh) (bytes := bytes) (maxL := maxL) (ret := ret) hM hp.1 hrc hrs hfr hlo hws hcw (fun a' U hW => word_at hW (Or.inl (by first | rfl | simp [Cond.onTables, Cond.keeps, Cond.steady])) hini)
  obtain ⟨hx, hb, hml, ho, -⟩ := S
  obtain ⟨-, ⟨cellB, hcB, hoB, hclB⟩, hPc⟩ := hp
  intro T hT X
  rcases vx_callVX X hx (C := C) (hh := hh) (bytes := bytes) (maxL := maxL) (ret := ret) ho hl hin hse hcode hy hK (by rw [hT]; exact hcB) hoB hclB hg (hsize.trans hml.symm) (argsL := As) (rest := rest) (fun sig h => hn.trans (hlen sig h)) hstack hW (by rw [hb]; exact hdg)
    (fun vm₁ hW₁ => ⟨hf.1, hf.2, hPc (T.setVm vm₁) hT hW₁⟩) with ⟨v, vm₁, ⟨U', l2, c2, s2⟩, hW₁, X', ⟨g', mk, t, L, e1, e2, hq, h1, hL, h2, h3⟩, st⟩ | ⟨q, vm₁, ⟨U', l2, c2, s2⟩, hW₁, X', ⟨g', mk, t, L, E, ce, e1, e2, hq, hce, hcv, hcl, h1, hL, h2, h3⟩, st⟩
  · dsimp only [Pt.U, Pt.locs, Pt.cells, Pt.slots] at X' e1 e2 h1 h2 h3 st
    subst h1; subst h2; subst h3
    exact Or.inl ⟨v, (T.setVm vm₁).calling g' mk (Value.ref b :: As).toArray, t, U', L, hT, X', hL, e1, e2, hq, st⟩
  · dsimp only [Pt.U, Pt.locs, Pt.cells, Pt.slots] at X' e1 e2 h1 h2 h3 st hcl
    subst h1; subst h2; subst h3
    exact Or.inr ⟨q, (T.setVm vm₁).calling g' mk (Value.ref b :: As).toArray, t, U', L, E, ce, hT, X', hL, e1, e2, hq, hce, hcv, vx_cls hW₁ hcl, st⟩
theorem vx_runSX {hh : List (Nat × Nat × Nat × Nat)} (S : CallFix p m c cc nL s args Ts own) (hM : vx_Met l y ws rm Pc Qc XC mc ms free) (cw : vx_CSW R s args own index y bytes maxL ret hh ws rm mc ms n) (hp : PreS s H Pc As)
    (hg : g.method = m) (hn : As.length = n) (hsize : g.locals.size = nL) (hstack : g.stack = As.reverse ++ rest) (hW : 2 * g.monitorRoom + (rest.map fun v => v.category).sum ≤ 8) (hdg : decode cc g.pc = .ok (.invokestatic index, 3)) (hf : cells + mc ≤ R.cells ∧ slots + ms ≤ R.slots) :
    vx_Run p l e R s m args below meth c H locs cells slots mc ms g rest (Qc As.toArray) XC free := by
  obtain ⟨⟨hrc, hrs, hfr, hlo, hws, hcw⟩, hcode, hini, hy, hlen, hl, hstt⟩ := cw
  have hK : vx_Back l R p e below s args y 3 8 (PreOf R mc ms Pc) (PostOf Qc mc ms free) (vx_Post XC mc ms free) := vx_backW (hh := hh) (bytes := bytes) (maxL := maxL) (ret := ret) hM hp.1 hrc hrs hfr hlo hws hcw (fun a' U hW => word_at hW (Or.inl (by first | rfl | simp [Cond.onTables, Cond.keeps, Cond.steady])) hini)
  obtain ⟨hx, hb, hml, ho, -⟩ := S
  intro T hT X
  rcases vx_callSX X hx (hh := hh) (bytes := bytes) (maxL := maxL) (ret := ret) ho hl hstt hini hcode hy hK hg (hsize.trans hml.symm) (argsL := As) (rest := rest) (fun sig h => hn.trans (hlen sig h)) hstack hW (by rw [hb]; exact hdg)
    (fun vm₁ hW₁ => ⟨hf.1, hf.2, hp.2 (T.setVm vm₁) hT hW₁⟩) with ⟨v, vm₁, ⟨U', l2, c2, s2⟩, hW₁, X', ⟨g', mk, t, L, e1, e2, hq, h1, hL, h2, h3⟩, st⟩ | ⟨q, vm₁, ⟨U', l2, c2, s2⟩, hW₁, X', ⟨g', mk, t, L, E, ce, e1, e2, hq, hce, hcv, hcl, h1, hL, h2, h3⟩, st⟩
  · dsimp only [Pt.U, Pt.locs, Pt.cells, Pt.slots] at X' e1 e2 h1 h2 h3 st
    subst h1; subst h2; subst h3
    exact Or.inl ⟨v, (T.setVm vm₁).calling g' mk As.toArray, t, U', L, hT, X', hL, e1, e2, hq, st⟩
  · dsimp only [Pt.U, Pt.locs, Pt.cells, Pt.slots] at X' e1 e2 h1 h2 h3 st hcl
    subst h1; subst h2; subst h3
    exact Or.inr ⟨q, (T.setVm vm₁).calling g' mk As.toArray, t, U', L, E, ce, hT, X', hL, e1, e2, hq, hce, hcv, vx_cls hW₁ hcl, st⟩
end
end VXH
theorem vx_ofWH {l : Launch} {y : MethodName} {ws ws' : List Cond} {rm : Room} {Pc : Array Value → State → Prop} {Qc : Array Value → State → Outcome → State → Prop} {XC : String → State → State → Prop} {mc ms : Nat} {free : Addr → Prop} {cc : ByteArray} {maxL : Nat} {ret : Option FieldType} {hh : List (Nat × Nat × Nat × Nat)}
    (hy : plainName y.cls = true) (hw : ws = Cond.codeWith y cc maxL ret hh :: ws')
    (body : ∀ p e s m args below meth c s₁, BodyLoose p l y (headSpec ws rm) cc maxL ret e s m args below meth c s₁ → c.maxLocals = maxL → Pc args s →
      W p l e (headSpec ws rm).room s m args below meth c s.heap [] 0 0 (vx_MQ below Qc XC args s mc ms free) (entryFrame m args maxL)) : vx_Met l y ws rm Pc Qc XC mc ms free := by
  refine MetFree.of_bodyS (code := cc) (maxLocals := maxL) (ret := ret) hy ?_ ?_
  · intro args s m h hn
    obtain ⟨m9, meth, c, hn9, h1, h2, h3, h4, -, h5, h6, -⟩ := Cond.codeWith_spec (atoms_spec (ws := ws) h _ (by rw [hw]; exact List.mem_cons_self))
    cases hn.symm.trans hn9
    exact ⟨meth, c, h1, h2, h3, h4, h5, h6⟩
  · intro p e s m args below meth c s₁ B hml hP _
    have hh0 : s₁.heap = s.heap := by rw [B.state]; rfl
    obtain ⟨t, a1, o, b1, b2, b3⟩ := body p e s m args below meth c s₁ B hml hP s₁ hh0 (Stand.of_body B)
    exact ⟨t, o, a1, b1, b2, b3⟩
/-! ===== END ===== -/
end
section
/-! ===== BEGIN printed: names, fields, word lists, decode rows ===== -/
def RX0 : String := "LessonMaker$Chapters"
def TX0 : u_T := fun k => match k with
  | 0 => ("LessonMaker$Chapters", "best", "[I", true)
  | 1 => ("LessonMaker$Chapters", "order", "[I", true)
  | _ => ("LessonMaker$Chapters", "known", "Z", false)
def tyX0 : Nat → FieldType := fun k => match k with
  | 0 => .array .int
  | 1 => .array .int
  | _ => .boolean
theorem nmX0 : ∀ a, a < 3 → ∀ b, b < 3 → a ≠ b → (TX0 a).2.1 ≠ (TX0 b).2.1 := by decide +kernel
theorem tyX0_ok : ∀ k, k < 3 → parseFieldDescriptor (TX0 k).2.2.1 = some (tyX0 k) := by decide +kernel
abbrev cX0_init : ByteArray := prog_2_method_1_code
def yX0_init : MethodName := ⟨RX0, "<init>", "()V"⟩
abbrev cX0_forget : ByteArray := prog_2_method_2_code
def yX0_forget : MethodName := ⟨RX0, "forget", "()V"⟩
abbrev cX0_callsAhead : ByteArray := prog_2_method_3_code
def yX0_callsAhead : MethodName := ⟨RX0, "callsAhead", "(LLessonMaker$Program;)I"⟩
abbrev cX0_functionAt : ByteArray := prog_2_method_4_code
def yX0_functionAt : MethodName := ⟨RX0, "functionAt", "(LLessonMaker$Program;I)I"⟩
abbrev cX0_find : ByteArray := prog_2_method_5_code
def yX0_find : MethodName := ⟨RX0, "find", "(LLessonMaker$Program;)V"⟩
abbrev cX0_firstOfBest : ByteArray := prog_2_method_6_code
def yX0_firstOfBest : MethodName := ⟨RX0, "firstOfBest", "(LLessonMaker$Program;I)I"⟩
abbrev cX0_costBehind : ByteArray := prog_2_method_7_code
def yX0_costBehind : MethodName := ⟨RX0, "costBehind", "(LLessonMaker$Program;II)I"⟩
def RX1 : String := "LessonMaker$Code"
def TX1 : u_T := fun k => match k with
  | 0 => ("LessonMaker$Code", "acts", "[I", true)
  | 1 => ("LessonMaker$Code", "numbers", "[I", true)
  | 2 => ("LessonMaker$Code", "lines", "[I", true)
  | _ => ("LessonMaker$Code", "size", "I", false)
def tyX1 : Nat → FieldType := fun k => match k with
  | 0 => .array .int
  | 1 => .array .int
  | 2 => .array .int
  | _ => .int
theorem nmX1 : ∀ a, a < 4 → ∀ b, b < 4 → a ≠ b → (TX1 a).2.1 ≠ (TX1 b).2.1 := by decide +kernel
theorem tyX1_ok : ∀ k, k < 4 → parseFieldDescriptor (TX1 k).2.2.1 = some (tyX1 k) := by decide +kernel
abbrev cX1_init : ByteArray := prog_3_method_1_code
def yX1_init : MethodName := ⟨RX1, "<init>", "()V"⟩
abbrev cX1_clear : ByteArray := prog_3_method_2_code
def yX1_clear : MethodName := ⟨RX1, "clear", "()V"⟩
abbrev cX1_add : ByteArray := prog_3_method_3_code
def yX1_add : MethodName := ⟨RX1, "add", "(III)I"⟩
abbrev cX1_setNumber : ByteArray := prog_3_method_4_code
def yX1_setNumber : MethodName := ⟨RX1, "setNumber", "(II)V"⟩
abbrev cX1_has : ByteArray := prog_3_method_5_code
def yX1_has : MethodName := ⟨RX1, "has", "(I)Z"⟩
def RX2 : String := "LessonMaker$Function"
def TX2 : u_T := fun k => match k with
  | 0 => ("LessonMaker$Function", "name", "I", false)
  | 1 => ("LessonMaker$Function", "firstToken", "I", false)
  | 2 => ("LessonMaker$Function", "lastToken", "I", false)
  | 3 => ("LessonMaker$Function", "firstLine", "I", false)
  | 4 => ("LessonMaker$Function", "lineCount", "I", false)
  | 5 => ("LessonMaker$Function", "firstAct", "I", false)
  | 6 => ("LessonMaker$Function", "calls", "I", false)
  | 7 => ("LessonMaker$Function", "placeCount", "I", false)
  | _ => ("LessonMaker$Function", "places", "[I", true)
def tyX2 : Nat → FieldType := fun k => match k with
  | 0 => .int
  | 1 => .int
  | 2 => .int
  | 3 => .int
  | 4 => .int
  | 5 => .int
  | 6 => .int
  | 7 => .int
  | _ => .array .int
theorem nmX2 : ∀ a, a < 9 → ∀ b, b < 9 → a ≠ b → (TX2 a).2.1 ≠ (TX2 b).2.1 := by decide +kernel
theorem tyX2_ok : ∀ k, k < 9 → parseFieldDescriptor (TX2 k).2.2.1 = some (tyX2 k) := by decide +kernel
abbrev cX2_init : ByteArray := prog_4_method_1_code
def yX2_init : MethodName := ⟨RX2, "<init>", "()V"⟩
abbrev cX2_begin : ByteArray := prog_4_method_2_code
def yX2_begin : MethodName := ⟨RX2, "begin", "(III)V"⟩
abbrev cX2_hasPlace : ByteArray := prog_4_method_3_code
def yX2_hasPlace : MethodName := ⟨RX2, "hasPlace", "(I)Z"⟩
abbrev cX2_addPlace : ByteArray := prog_4_method_4_code
def yX2_addPlace : MethodName := ⟨RX2, "addPlace", "(I)V"⟩
abbrev cX2_placeAt : ByteArray := prog_4_method_5_code
def yX2_placeAt : MethodName := ⟨RX2, "placeAt", "(I)I"⟩
def RX3 : String := "LessonMaker$Growth"
def TX3 : u_T := fun k => match k with
  | 0 => ("LessonMaker$Growth", "states", "[I", true)
  | 1 => ("LessonMaker$Growth", "reaches", "[I", true)
  | _ => ("LessonMaker$Growth", "goneCount", "I", false)
def tyX3 : Nat → FieldType := fun k => match k with
  | 0 => .array .int
  | 1 => .array .int
  | _ => .int
theorem nmX3 : ∀ a, a < 3 → ∀ b, b < 3 → a ≠ b → (TX3 a).2.1 ≠ (TX3 b).2.1 := by decide +kernel
theorem tyX3_ok : ∀ k, k < 3 → parseFieldDescriptor (TX3 k).2.2.1 = some (tyX3 k) := by decide +kernel
abbrev cX3_init : ByteArray := prog_5_method_1_code
def yX3_init : MethodName := ⟨RX3, "<init>", "()V"⟩
abbrev cX3_stateOf : ByteArray := prog_5_method_2_code
def yX3_stateOf : MethodName := ⟨RX3, "stateOf", "(I)I"⟩
abbrev cX3_compare : ByteArray := prog_5_method_3_code
def yX3_compare : MethodName := ⟨RX3, "compare", "(LLessonMaker$Program;LLessonMaker$Program;)V"⟩
abbrev cX3_isNew : ByteArray := prog_5_method_4_code
def yX3_isNew : MethodName := ⟨RX3, "isNew", "(LLessonMaker$Program;LLessonMaker$Program;I)Z"⟩
abbrev cX3_findReaches : ByteArray := prog_5_method_5_code
def yX3_findReaches : MethodName := ⟨RX3, "findReaches", "(LLessonMaker$Program;)V"⟩
abbrev cX3_countGone : ByteArray := prog_5_method_6_code
def yX3_countGone : MethodName := ⟨RX3, "countGone", "(LLessonMaker$Program;LLessonMaker$Program;)I"⟩
def RX4 : String := "LessonMaker$Line"
def TX4 : u_T := fun k => match k with
  | 0 => ("LessonMaker$Line", "kind", "I", false)
  | 1 => ("LessonMaker$Line", "function", "I", false)
  | 2 => ("LessonMaker$Line", "at", "I", false)
  | _ => ("LessonMaker$Line", "blocks", "I", false)
def tyX4 : Nat → FieldType := fun k => match k with
  | 0 => .int
  | 1 => .int
  | 2 => .int
  | _ => .int
theorem nmX4 : ∀ a, a < 4 → ∀ b, b < 4 → a ≠ b → (TX4 a).2.1 ≠ (TX4 b).2.1 := by decide +kernel
theorem tyX4_ok : ∀ k, k < 4 → parseFieldDescriptor (TX4 k).2.2.1 = some (tyX4 k) := by decide +kernel
abbrev cX4_init : ByteArray := prog_6_method_1_code
def yX4_init : MethodName := ⟨RX4, "<init>", "()V"⟩
def RX5 : String := "LessonMaker$Machine"
def TX5 : u_T := fun k => match k with
  | 0 => ("LessonMaker$Machine", "end", "I", false)
  | 1 => ("LessonMaker$Machine", "value", "I", false)
  | 2 => ("LessonMaker$Machine", "steps", "I", false)
  | 3 => ("LessonMaker$Machine", "saidCount", "I", false)
  | 4 => ("LessonMaker$Machine", "traceCount", "I", false)
  | 5 => ("LessonMaker$Machine", "deepest", "I", false)
  | 6 => ("LessonMaker$Machine", "covers", "J", false)
  | 7 => ("LessonMaker$Machine", "said", "[I", true)
  | 8 => ("LessonMaker$Machine", "trace", "[I", true)
  | 9 => ("LessonMaker$Machine", "places", "[I", true)
  | 10 => ("LessonMaker$Machine", "program", "LLessonMaker$Program;", false)
  | 11 => ("LessonMaker$Machine", "rule", "I", false)
  | 12 => ("LessonMaker$Machine", "fuel", "I", false)
  | 13 => ("LessonMaker$Machine", "going", "Z", false)
  | 14 => ("LessonMaker$Machine", "next", "I", false)
  | 15 => ("LessonMaker$Machine", "depth", "I", false)
  | 16 => ("LessonMaker$Machine", "backs", "[I", true)
  | 17 => ("LessonMaker$Machine", "stack", "[I", true)
  | _ => ("LessonMaker$Machine", "top", "I", false)
def tyX5 : Nat → FieldType := fun k => match k with
  | 0 => .int
  | 1 => .int
  | 2 => .int
  | 3 => .int
  | 4 => .int
  | 5 => .int
  | 6 => .long
  | 7 => .array .int
  | 8 => .array .int
  | 9 => .array .int
  | 10 => .object "LessonMaker$Program"
  | 11 => .int
  | 12 => .int
  | 13 => .boolean
  | 14 => .int
  | 15 => .int
  | 16 => .array .int
  | 17 => .array .int
  | _ => .int
theorem nmX5 : ∀ a, a < 19 → ∀ b, b < 19 → a ≠ b → (TX5 a).2.1 ≠ (TX5 b).2.1 := by decide +kernel
theorem tyX5_ok : ∀ k, k < 19 → parseFieldDescriptor (TX5 k).2.2.1 = some (tyX5 k) := by decide +kernel
abbrev cX5_init : ByteArray := prog_7_method_1_code
def yX5_init : MethodName := ⟨RX5, "<init>", "()V"⟩
abbrev cX5_start : ByteArray := prog_7_method_2_code
def yX5_start : MethodName := ⟨RX5, "start", "(LLessonMaker$Program;II)V"⟩
abbrev cX5_finish : ByteArray := prog_7_method_3_code
def yX5_finish : MethodName := ⟨RX5, "finish", "(IIII)V"⟩
abbrev cX5_keepsSaid : ByteArray := prog_7_method_4_code
def yX5_keepsSaid : MethodName := ⟨RX5, "keepsSaid", "(I)Z"⟩
abbrev cX5_saidAt : ByteArray := prog_7_method_5_code
def yX5_saidAt : MethodName := ⟨RX5, "saidAt", "(I)I"⟩
abbrev cX5_keepsTrace : ByteArray := prog_7_method_6_code
def yX5_keepsTrace : MethodName := ⟨RX5, "keepsTrace", "(II)Z"⟩
abbrev cX5_traceAt : ByteArray := prog_7_method_7_code
def yX5_traceAt : MethodName := ⟨RX5, "traceAt", "(II)I"⟩
abbrev cX5_firstCallsPlace : ByteArray := prog_7_method_8_code
def yX5_firstCallsPlace : MethodName := ⟨RX5, "firstCallsPlace", "(I)I"⟩
abbrev cX5_tellsLike : ByteArray := prog_7_method_9_code
def yX5_tellsLike : MethodName := ⟨RX5, "tellsLike", "(LLessonMaker$Machine;)Z"⟩
abbrev cX5_obey : ByteArray := prog_7_method_10_code
def yX5_obey : MethodName := ⟨RX5, "obey", "(III)V"⟩
abbrev cX5_reckon : ByteArray := prog_7_method_11_code
def yX5_reckon : MethodName := ⟨RX5, "reckon", "(I)V"⟩
abbrev cX5_begin : ByteArray := prog_7_method_12_code
def yX5_begin : MethodName := ⟨RX5, "begin", "(I)V"⟩
abbrev cX5_spendStep : ByteArray := prog_7_method_13_code
def yX5_spendStep : MethodName := ⟨RX5, "spendStep", "()Z"⟩
abbrev cX5_stop : ByteArray := prog_7_method_14_code
def yX5_stop : MethodName := ⟨RX5, "stop", "(I)V"⟩
abbrev cX5_enter : ByteArray := prog_7_method_15_code
def yX5_enter : MethodName := ⟨RX5, "enter", "(I)V"⟩
abbrev cX5_leave : ByteArray := prog_7_method_16_code
def yX5_leave : MethodName := ⟨RX5, "leave", "(I)V"⟩
abbrev cX5_set : ByteArray := prog_7_method_17_code
def yX5_set : MethodName := ⟨RX5, "set", "(II)V"⟩
abbrev cX5_say : ByteArray := prog_7_method_18_code
def yX5_say : MethodName := ⟨RX5, "say", "(I)V"⟩
abbrev cX5_giveBack : ByteArray := prog_7_method_19_code
def yX5_giveBack : MethodName := ⟨RX5, "giveBack", "(I)V"⟩
abbrev cX5_branch : ByteArray := prog_7_method_20_code
def yX5_branch : MethodName := ⟨RX5, "branch", "(II)V"⟩
abbrev cX5_again : ByteArray := prog_7_method_21_code
def yX5_again : MethodName := ⟨RX5, "again", "(I)V"⟩
abbrev cX5_note : ByteArray := prog_7_method_22_code
def yX5_note : MethodName := ⟨RX5, "note", "(IIII)V"⟩
abbrev cX5_placeNow : ByteArray := prog_7_method_23_code
def yX5_placeNow : MethodName := ⟨RX5, "placeNow", "(I)I"⟩
abbrev cX5_setPlace : ByteArray := prog_7_method_24_code
def yX5_setPlace : MethodName := ⟨RX5, "setPlace", "(II)V"⟩
abbrev cX5_push : ByteArray := prog_7_method_25_code
def yX5_push : MethodName := ⟨RX5, "push", "(I)V"⟩
abbrev cX5_pop : ByteArray := prog_7_method_26_code
def yX5_pop : MethodName := ⟨RX5, "pop", "()I"⟩
def RX6 : String := "LessonMaker$Program"
def TX6 : u_T := fun k => match k with
  | 0 => ("LessonMaker$Program", "tokens", "LLessonMaker$Tokens;", true)
  | 1 => ("LessonMaker$Program", "code", "LLessonMaker$Code;", true)
  | 2 => ("LessonMaker$Program", "functions", "[LLessonMaker$Function;", true)
  | 3 => ("LessonMaker$Program", "lines", "[LLessonMaker$Line;", true)
  | 4 => ("LessonMaker$Program", "functionCount", "I", false)
  | _ => ("LessonMaker$Program", "lineCount", "I", false)
def tyX6 : Nat → FieldType := fun k => match k with
  | 0 => .object "LessonMaker$Tokens"
  | 1 => .object "LessonMaker$Code"
  | 2 => .array (.object "LessonMaker$Function")
  | 3 => .array (.object "LessonMaker$Line")
  | 4 => .int
  | _ => .int
theorem nmX6 : ∀ a, a < 6 → ∀ b, b < 6 → a ≠ b → (TX6 a).2.1 ≠ (TX6 b).2.1 := by decide +kernel
theorem tyX6_ok : ∀ k, k < 6 → parseFieldDescriptor (TX6 k).2.2.1 = some (tyX6 k) := by decide +kernel
abbrev cX6_init : ByteArray := prog_8_method_1_code
def yX6_init : MethodName := ⟨RX6, "<init>", "()V"⟩
abbrev cX6_clear : ByteArray := prog_8_method_2_code
def yX6_clear : MethodName := ⟨RX6, "clear", "()V"⟩
abbrev cX6_hasFunction : ByteArray := prog_8_method_3_code
def yX6_hasFunction : MethodName := ⟨RX6, "hasFunction", "(I)Z"⟩
abbrev cX6_hasLine : ByteArray := prog_8_method_4_code
def yX6_hasLine : MethodName := ⟨RX6, "hasLine", "(I)Z"⟩
abbrev cX6_addLine : ByteArray := prog_8_method_5_code
def yX6_addLine : MethodName := ⟨RX6, "addLine", "(III)I"⟩
abbrev cX6_functionNamed : ByteArray := prog_8_method_6_code
def yX6_functionNamed : MethodName := ⟨RX6, "functionNamed", "(LLessonMaker$Tokens;I)I"⟩
def RX7 : String := "LessonMaker$Reader"
def TX7 : u_T := fun k => match k with
  | 0 => ("LessonMaker$Reader", "faultPlace", "I", false)
  | 1 => ("LessonMaker$Reader", "foundFault", "I", false)
  | 2 => ("LessonMaker$Reader", "faultToken", "I", false)
  | 3 => ("LessonMaker$Reader", "program", "LLessonMaker$Program;", false)
  | 4 => ("LessonMaker$Reader", "tokens", "LLessonMaker$Tokens;", false)
  | 5 => ("LessonMaker$Reader", "code", "LLessonMaker$Code;", false)
  | 6 => ("LessonMaker$Reader", "next", "I", false)
  | 7 => ("LessonMaker$Reader", "callNames", "[I", true)
  | 8 => ("LessonMaker$Reader", "callSums", "[I", true)
  | 9 => ("LessonMaker$Reader", "callActs", "[I", true)
  | 10 => ("LessonMaker$Reader", "callers", "[I", true)
  | _ => ("LessonMaker$Reader", "callCount", "I", false)
def tyX7 : Nat → FieldType := fun k => match k with
  | 0 => .int
  | 1 => .int
  | 2 => .int
  | 3 => .object "LessonMaker$Program"
  | 4 => .object "LessonMaker$Tokens"
  | 5 => .object "LessonMaker$Code"
  | 6 => .int
  | 7 => .array .int
  | 8 => .array .int
  | 9 => .array .int
  | 10 => .array .int
  | _ => .int
theorem nmX7 : ∀ a, a < 12 → ∀ b, b < 12 → a ≠ b → (TX7 a).2.1 ≠ (TX7 b).2.1 := by decide +kernel
theorem tyX7_ok : ∀ k, k < 12 → parseFieldDescriptor (TX7 k).2.2.1 = some (tyX7 k) := by decide +kernel
abbrev cX7_init : ByteArray := prog_9_method_1_code
def yX7_init : MethodName := ⟨RX7, "<init>", "()V"⟩
abbrev cX7_read : ByteArray := prog_9_method_2_code
def yX7_read : MethodName := ⟨RX7, "read", "([BILLessonMaker$Program;)I"⟩
abbrev cX7_readFunction : ByteArray := prog_9_method_3_code
def yX7_readFunction : MethodName := ⟨RX7, "readFunction", "()V"⟩
abbrev cX7_readName : ByteArray := prog_9_method_4_code
def yX7_readName : MethodName := ⟨RX7, "readName", "(LLessonMaker$Function;)V"⟩
abbrev cX7_readPlaces : ByteArray := prog_9_method_5_code
def yX7_readPlaces : MethodName := ⟨RX7, "readPlaces", "(LLessonMaker$Function;)V"⟩
abbrev cX7_readPlace : ByteArray := prog_9_method_6_code
def yX7_readPlace : MethodName := ⟨RX7, "readPlace", "(LLessonMaker$Function;)V"⟩
abbrev cX7_readBlock : ByteArray := prog_9_method_7_code
def yX7_readBlock : MethodName := ⟨RX7, "readBlock", "(I)V"⟩
abbrev cX7_readLine : ByteArray := prog_9_method_8_code
def yX7_readLine : MethodName := ⟨RX7, "readLine", "(I)V"⟩
abbrev cX7_lineKindOf : ByteArray := prog_9_method_9_code
def yX7_lineKindOf : MethodName := ⟨RX7, "lineKindOf", "(I)I"⟩
abbrev cX7_readIf : ByteArray := prog_9_method_10_code
def yX7_readIf : MethodName := ⟨RX7, "readIf", "(II)V"⟩
abbrev cX7_readWhile : ByteArray := prog_9_method_11_code
def yX7_readWhile : MethodName := ⟨RX7, "readWhile", "(II)V"⟩
abbrev cX7_readTest : ByteArray := prog_9_method_12_code
def yX7_readTest : MethodName := ⟨RX7, "readTest", "()V"⟩
abbrev cX7_readSum : ByteArray := prog_9_method_13_code
def yX7_readSum : MethodName := ⟨RX7, "readSum", "(I)V"⟩
abbrev cX7_readTerm : ByteArray := prog_9_method_14_code
def yX7_readTerm : MethodName := ⟨RX7, "readTerm", "(I)V"⟩
abbrev cX7_readPart : ByteArray := prog_9_method_15_code
def yX7_readPart : MethodName := ⟨RX7, "readPart", "(I)V"⟩
abbrev cX7_readCall : ByteArray := prog_9_method_16_code
def yX7_readCall : MethodName := ⟨RX7, "readCall", "(I)V"⟩
abbrev cX7_readSums : ByteArray := prog_9_method_17_code
def yX7_readSums : MethodName := ⟨RX7, "readSums", "(I)I"⟩
abbrev cX7_readSumWithin : ByteArray := prog_9_method_18_code
def yX7_readSumWithin : MethodName := ⟨RX7, "readSumWithin", "(I)V"⟩
abbrev cX7_openBracket : ByteArray := prog_9_method_19_code
def yX7_openBracket : MethodName := ⟨RX7, "openBracket", "(I)V"⟩
abbrev cX7_beginsSum : ByteArray := prog_9_method_20_code
def yX7_beginsSum : MethodName := ⟨RX7, "beginsSum", "(I)Z"⟩
abbrev cX7_addCall : ByteArray := prog_9_method_21_code
def yX7_addCall : MethodName := ⟨RX7, "addCall", "(I)I"⟩
abbrev cX7_joinCalls : ByteArray := prog_9_method_22_code
def yX7_joinCalls : MethodName := ⟨RX7, "joinCalls", "()V"⟩
abbrev cX7_kind : ByteArray := prog_9_method_23_code
def yX7_kind : MethodName := ⟨RX7, "kind", "()I"⟩
abbrev cX7_take : ByteArray := prog_9_method_24_code
def yX7_take : MethodName := ⟨RX7, "take", "(I)V"⟩
abbrev cX7_fail : ByteArray := prog_9_method_25_code
def yX7_fail : MethodName := ⟨RX7, "fail", "(I)V"⟩
def RX8 : String := "LessonMaker$Tokens"
def TX8 : u_T := fun k => match k with
  | 0 => ("LessonMaker$Tokens", "text", "[B", true)
  | 1 => ("LessonMaker$Tokens", "length", "I", false)
  | 2 => ("LessonMaker$Tokens", "kinds", "[I", true)
  | 3 => ("LessonMaker$Tokens", "places", "[I", true)
  | 4 => ("LessonMaker$Tokens", "widths", "[I", true)
  | _ => ("LessonMaker$Tokens", "size", "I", false)
def tyX8 : Nat → FieldType := fun k => match k with
  | 0 => .array .byte
  | 1 => .int
  | 2 => .array .int
  | 3 => .array .int
  | 4 => .array .int
  | _ => .int
theorem nmX8 : ∀ a, a < 6 → ∀ b, b < 6 → a ≠ b → (TX8 a).2.1 ≠ (TX8 b).2.1 := by decide +kernel
theorem tyX8_ok : ∀ k, k < 6 → parseFieldDescriptor (TX8 k).2.2.1 = some (tyX8 k) := by decide +kernel
abbrev cX8_init : ByteArray := prog_10_method_1_code
def yX8_init : MethodName := ⟨RX8, "<init>", "()V"⟩
abbrev cX8_cut : ByteArray := prog_10_method_2_code
def yX8_cut : MethodName := ⟨RX8, "cut", "([BI)V"⟩
abbrev cX8_placeOf : ByteArray := prog_10_method_3_code
def yX8_placeOf : MethodName := ⟨RX8, "placeOf", "(I)I"⟩
abbrev cX8_byteOf : ByteArray := prog_10_method_4_code
def yX8_byteOf : MethodName := ⟨RX8, "byteOf", "(II)I"⟩
abbrev cX8_letterOf : ByteArray := prog_10_method_5_code
def yX8_letterOf : MethodName := ⟨RX8, "letterOf", "(I)I"⟩
abbrev cX8_valueOf : ByteArray := prog_10_method_6_code
def yX8_valueOf : MethodName := ⟨RX8, "valueOf", "(I)I"⟩
abbrev cX8_isLike : ByteArray := prog_10_method_7_code
def yX8_isLike : MethodName := ⟨RX8, "isLike", "(ILLessonMaker$Tokens;I)Z"⟩
abbrev cX8_has : ByteArray := prog_10_method_8_code
def yX8_has : MethodName := ⟨RX8, "has", "(I)Z"⟩
abbrev cX8_textAt : ByteArray := prog_10_method_9_code
def yX8_textAt : MethodName := ⟨RX8, "textAt", "(I)I"⟩
abbrev cX8_add : ByteArray := prog_10_method_10_code
def yX8_add : MethodName := ⟨RX8, "add", "(III)V"⟩
abbrev cX8_widthAt : ByteArray := prog_10_method_11_code
def yX8_widthAt : MethodName := ⟨RX8, "widthAt", "(I)I"⟩
abbrev cX8_isLetter : ByteArray := prog_10_method_12_code
def yX8_isLetter : MethodName := ⟨RX8, "isLetter", "(I)Z"⟩
abbrev cX8_isDigit : ByteArray := prog_10_method_13_code
def yX8_isDigit : MethodName := ⟨RX8, "isDigit", "(I)Z"⟩
abbrev cX8_isSign : ByteArray := prog_10_method_14_code
def yX8_isSign : MethodName := ⟨RX8, "isSign", "(I)Z"⟩
abbrev cX8_kindOf : ByteArray := prog_10_method_15_code
def yX8_kindOf : MethodName := ⟨RX8, "kindOf", "(II)I"⟩
abbrev cX8_wordKind : ByteArray := prog_10_method_16_code
def yX8_wordKind : MethodName := ⟨RX8, "wordKind", "(II)I"⟩
abbrev cX8_spells : ByteArray := prog_10_method_17_code
def yX8_spells : MethodName := ⟨RX8, "spells", "(IILjava/lang/String;)Z"⟩
def RX9 : String := "LessonMaker$Told"
def TX9 : u_T := fun k => match k with
  | 0 => ("LessonMaker$Told", "covers", "[J", true)
  | 1 => ("LessonMaker$Told", "chosen", "[I", true)
  | 2 => ("LessonMaker$Told", "chosenCount", "I", false)
  | 3 => ("LessonMaker$Told", "chosenOf", "I", false)
  | _ => ("LessonMaker$Told", "size", "I", false)
def tyX9 : Nat → FieldType := fun k => match k with
  | 0 => .array .long
  | 1 => .array .int
  | 2 => .int
  | 3 => .int
  | _ => .int
theorem nmX9 : ∀ a, a < 5 → ∀ b, b < 5 → a ≠ b → (TX9 a).2.1 ≠ (TX9 b).2.1 := by decide +kernel
theorem tyX9_ok : ∀ k, k < 5 → parseFieldDescriptor (TX9 k).2.2.1 = some (tyX9 k) := by decide +kernel
abbrev cX9_init : ByteArray := prog_11_method_1_code
def yX9_init : MethodName := ⟨RX9, "<init>", "()V"⟩
abbrev cX9_forget : ByteArray := prog_11_method_2_code
def yX9_forget : MethodName := ⟨RX9, "forget", "()V"⟩
abbrev cX9_isFull : ByteArray := prog_11_method_3_code
def yX9_isFull : MethodName := ⟨RX9, "isFull", "()Z"⟩
abbrev cX9_add : ByteArray := prog_11_method_4_code
def yX9_add : MethodName := ⟨RX9, "add", "(J)I"⟩
abbrev cX9_shownLines : ByteArray := prog_11_method_5_code
def yX9_shownLines : MethodName := ⟨RX9, "shownLines", "()J"⟩
abbrev cX9_chooseFewest : ByteArray := prog_11_method_6_code
def yX9_chooseFewest : MethodName := ⟨RX9, "chooseFewest", "()I"⟩
abbrev cX9_chosenAt : ByteArray := prog_11_method_7_code
def yX9_chosenAt : MethodName := ⟨RX9, "chosenAt", "(I)I"⟩
abbrev cX9_fewestSet : ByteArray := prog_11_method_8_code
def yX9_fewestSet : MethodName := ⟨RX9, "fewestSet", "()I"⟩
abbrev cX9_choose : ByteArray := prog_11_method_9_code
def yX9_choose : MethodName := ⟨RX9, "choose", "(I)V"⟩
abbrev cX9_linesOf : ByteArray := prog_11_method_10_code
def yX9_linesOf : MethodName := ⟨RX9, "linesOf", "(I)J"⟩
abbrev cX9_holds : ByteArray := prog_11_method_11_code
def yX9_holds : MethodName := ⟨RX9, "holds", "(II)Z"⟩
def RX10 : String := "LessonMaker"
def TX10 : u_T := fun k => match k with
  | 0 => ("LessonMaker", "tape", "[B", true)
  | 1 => ("LessonMaker", "fed", "I", false)
  | 2 => ("LessonMaker", "now", "LLessonMaker$Program;", false)
  | 3 => ("LessonMaker", "spare", "LLessonMaker$Program;", false)
  | 4 => ("LessonMaker", "reader", "LLessonMaker$Reader;", true)
  | 5 => ("LessonMaker", "latest", "LLessonMaker$Machine;", true)
  | 6 => ("LessonMaker", "truth", "LLessonMaker$Machine;", true)
  | 7 => ("LessonMaker", "trial", "LLessonMaker$Machine;", true)
  | 8 => ("LessonMaker", "hasRun", "Z", false)
  | 9 => ("LessonMaker", "chapters", "LLessonMaker$Chapters;", true)
  | 10 => ("LessonMaker", "told", "LLessonMaker$Told;", true)
  | 11 => ("LessonMaker", "growth", "LLessonMaker$Growth;", true)
  | 12 => ("LessonMaker", "latestFault", "I", false)
  | _ => ("LessonMaker", "latestTrouble", "I", false)
def tyX10 : Nat → FieldType := fun k => match k with
  | 0 => .array .byte
  | 1 => .int
  | 2 => .object "LessonMaker$Program"
  | 3 => .object "LessonMaker$Program"
  | 4 => .object "LessonMaker$Reader"
  | 5 => .object "LessonMaker$Machine"
  | 6 => .object "LessonMaker$Machine"
  | 7 => .object "LessonMaker$Machine"
  | 8 => .boolean
  | 9 => .object "LessonMaker$Chapters"
  | 10 => .object "LessonMaker$Told"
  | 11 => .object "LessonMaker$Growth"
  | 12 => .int
  | _ => .int
theorem nmX10 : ∀ a, a < 14 → ∀ b, b < 14 → a ≠ b → (TX10 a).2.1 ≠ (TX10 b).2.1 := by decide +kernel
theorem tyX10_ok : ∀ k, k < 14 → parseFieldDescriptor (TX10 k).2.2.1 = some (tyX10 k) := by decide +kernel
abbrev cX10_init : ByteArray := prog_1_method_1_code
def yX10_init : MethodName := ⟨RX10, "<init>", "()V"⟩
abbrev cX10_feed : ByteArray := prog_1_method_2_code
def yX10_feed : MethodName := ⟨RX10, "feed", "(IIIII)I"⟩
abbrev cX10_program : ByteArray := prog_1_method_3_code
def yX10_program : MethodName := ⟨RX10, "program", "(I)I"⟩
abbrev cX10_fault : ByteArray := prog_1_method_4_code
def yX10_fault : MethodName := ⟨RX10, "fault", "()I"⟩
abbrev cX10_where : ByteArray := prog_1_method_5_code
def yX10_where : MethodName := ⟨RX10, "where", "()I"⟩
abbrev cX10_function : ByteArray := prog_1_method_6_code
def yX10_function : MethodName := ⟨RX10, "function", "(II)I"⟩
abbrev cX10_name : ByteArray := prog_1_method_7_code
def yX10_name : MethodName := ⟨RX10, "name", "(II)I"⟩
abbrev cX10_line : ByteArray := prog_1_method_8_code
def yX10_line : MethodName := ⟨RX10, "line", "(II)I"⟩
abbrev cX10_run : ByteArray := prog_1_method_9_code
def yX10_run : MethodName := ⟨RX10, "run", "(IIIII)I"⟩
abbrev cX10_ran : ByteArray := prog_1_method_10_code
def yX10_ran : MethodName := ⟨RX10, "ran", "(I)I"⟩
abbrev cX10_said : ByteArray := prog_1_method_11_code
def yX10_said : MethodName := ⟨RX10, "said", "(I)I"⟩
abbrev cX10_trace : ByteArray := prog_1_method_12_code
def yX10_trace : MethodName := ⟨RX10, "trace", "(II)I"⟩
abbrev cX10_covered : ByteArray := prog_1_method_13_code
def yX10_covered : MethodName := ⟨RX10, "covered", "(I)I"⟩
abbrev cX10_place : ByteArray := prog_1_method_14_code
def yX10_place : MethodName := ⟨RX10, "place", "(I)I"⟩
abbrev cX10_wrong : ByteArray := prog_1_method_15_code
def yX10_wrong : MethodName := ⟨RX10, "wrong", "(IIIII)I"⟩
abbrev cX10_unlike : ByteArray := prog_1_method_16_code
def yX10_unlike : MethodName := ⟨RX10, "unlike", "(IIII)I"⟩
abbrev cX10_order : ByteArray := prog_1_method_17_code
def yX10_order : MethodName := ⟨RX10, "order", "()I"⟩
abbrev cX10_chapter : ByteArray := prog_1_method_18_code
def yX10_chapter : MethodName := ⟨RX10, "chapter", "(I)I"⟩
abbrev cX10_tell : ByteArray := prog_1_method_19_code
def yX10_tell : MethodName := ⟨RX10, "tell", "(IIII)I"⟩
abbrev cX10_shown : ByteArray := prog_1_method_20_code
def yX10_shown : MethodName := ⟨RX10, "shown", "()I"⟩
abbrev cX10_fewest : ByteArray := prog_1_method_21_code
def yX10_fewest : MethodName := ⟨RX10, "fewest", "()I"⟩
abbrev cX10_picked : ByteArray := prog_1_method_22_code
def yX10_picked : MethodName := ⟨RX10, "picked", "(I)I"⟩
abbrev cX10_anew : ByteArray := prog_1_method_23_code
def yX10_anew : MethodName := ⟨RX10, "anew", "(I)I"⟩
abbrev cX10_gone : ByteArray := prog_1_method_24_code
def yX10_gone : MethodName := ⟨RX10, "gone", "()I"⟩
abbrev cX10_count : ByteArray := prog_1_method_25_code
def yX10_count : MethodName := ⟨RX10, "count", "(I)I"⟩
abbrev cX10_trouble : ByteArray := prog_1_method_26_code
def yX10_trouble : MethodName := ⟨RX10, "trouble", "()I"⟩
abbrev cX10_refuse : ByteArray := prog_1_method_27_code
def yX10_refuse : MethodName := ⟨RX10, "refuse", "(I)I"⟩
abbrev cX10_accept : ByteArray := prog_1_method_28_code
def yX10_accept : MethodName := ⟨RX10, "accept", "(I)I"⟩
abbrev cX10_feedNumber : ByteArray := prog_1_method_29_code
def yX10_feedNumber : MethodName := ⟨RX10, "feedNumber", "(I)V"⟩
abbrev cX10_turnToSpare : ByteArray := prog_1_method_30_code
def yX10_turnToSpare : MethodName := ⟨RX10, "turnToSpare", "()V"⟩
def RX11 : String := "LessonMakerModel$Program"
def TX11 : u_T := fun k => match k with
  | 0 => ("LessonMakerModel$Program", "functions", "I", false)
  | 1 => ("LessonMakerModel$Program", "lines", "I", false)
  | 2 => ("LessonMakerModel$Program", "items", "I", false)
  | 3 => ("LessonMakerModel$Program", "texts", "I", false)
  | 4 => ("LessonMakerModel$Program", "name", "[J", true)
  | 5 => ("LessonMakerModel$Program", "nameSize", "[I", true)
  | 6 => ("LessonMakerModel$Program", "has", "[I", true)
  | 7 => ("LessonMakerModel$Program", "first", "[I", true)
  | 8 => ("LessonMakerModel$Program", "many", "[I", true)
  | 9 => ("LessonMakerModel$Program", "calls", "[I", true)
  | 10 => ("LessonMakerModel$Program", "textFrom", "[I", true)
  | 11 => ("LessonMakerModel$Program", "textTo", "[I", true)
  | 12 => ("LessonMakerModel$Program", "place", "[I", true)
  | 13 => ("LessonMakerModel$Program", "kind", "[I", true)
  | 14 => ("LessonMakerModel$Program", "function", "[I", true)
  | 15 => ("LessonMakerModel$Program", "at", "[I", true)
  | 16 => ("LessonMakerModel$Program", "within", "[I", true)
  | 17 => ("LessonMakerModel$Program", "to", "[I", true)
  | 18 => ("LessonMakerModel$Program", "next", "[I", true)
  | 19 => ("LessonMakerModel$Program", "around", "[I", true)
  | 20 => ("LessonMakerModel$Program", "body", "[I", true)
  | 21 => ("LessonMakerModel$Program", "other", "[I", true)
  | 22 => ("LessonMakerModel$Program", "from", "[I", true)
  | 23 => ("LessonMakerModel$Program", "end", "[I", true)
  | 24 => ("LessonMakerModel$Program", "sign", "[I", true)
  | 25 => ("LessonMakerModel$Program", "value", "[I", true)
  | 26 => ("LessonMakerModel$Program", "many2", "[I", true)
  | 27 => ("LessonMakerModel$Program", "spot", "[I", true)
  | 28 => ("LessonMakerModel$Program", "called", "[J", true)
  | _ => ("LessonMakerModel$Program", "text", "[B", true)
def tyX11 : Nat → FieldType := fun k => match k with
  | 0 => .int
  | 1 => .int
  | 2 => .int
  | 3 => .int
  | 4 => .array .long
  | 5 => .array .int
  | 6 => .array .int
  | 7 => .array .int
  | 8 => .array .int
  | 9 => .array .int
  | 10 => .array .int
  | 11 => .array .int
  | 12 => .array .int
  | 13 => .array .int
  | 14 => .array .int
  | 15 => .array .int
  | 16 => .array .int
  | 17 => .array .int
  | 18 => .array .int
  | 19 => .array .int
  | 20 => .array .int
  | 21 => .array .int
  | 22 => .array .int
  | 23 => .array .int
  | 24 => .array .int
  | 25 => .array .int
  | 26 => .array .int
  | 27 => .array .int
  | 28 => .array .long
  | _ => .array .byte
theorem nmX11 : ∀ a, a < 30 → ∀ b, b < 30 → a ≠ b → (TX11 a).2.1 ≠ (TX11 b).2.1 := by decide +kernel
theorem tyX11_ok : ∀ k, k < 30 → parseFieldDescriptor (TX11 k).2.2.1 = some (tyX11 k) := by decide +kernel
abbrev cX11_init : ByteArray := prog_14_method_1_code
def yX11_init : MethodName := ⟨RX11, "<init>", "()V"⟩
abbrev cX11_find : ByteArray := prog_14_method_2_code
def yX11_find : MethodName := ⟨RX11, "find", "(J)I"⟩
abbrev cX11_put : ByteArray := prog_14_method_3_code
def yX11_put : MethodName := ⟨RX11, "put", "(II)V"⟩
abbrev cX11_isSame : ByteArray := prog_14_method_4_code
def yX11_isSame : MethodName := ⟨RX11, "isSame", "(ILLessonMakerModel$Program;I)Z"⟩
def RX12 : String := "LessonMakerModel$Run"
def TX12 : u_T := fun k => match k with
  | 0 => ("LessonMakerModel$Run", "end", "I", false)
  | 1 => ("LessonMakerModel$Run", "value", "I", false)
  | 2 => ("LessonMakerModel$Run", "steps", "I", false)
  | 3 => ("LessonMakerModel$Run", "saids", "I", false)
  | 4 => ("LessonMakerModel$Run", "traces", "I", false)
  | 5 => ("LessonMakerModel$Run", "most", "I", false)
  | 6 => ("LessonMakerModel$Run", "covered", "J", false)
  | 7 => ("LessonMakerModel$Run", "said", "[I", true)
  | 8 => ("LessonMakerModel$Run", "trace", "[I", true)
  | _ => ("LessonMakerModel$Run", "places", "[I", true)
def tyX12 : Nat → FieldType := fun k => match k with
  | 0 => .int
  | 1 => .int
  | 2 => .int
  | 3 => .int
  | 4 => .int
  | 5 => .int
  | 6 => .long
  | 7 => .array .int
  | 8 => .array .int
  | _ => .array .int
theorem nmX12 : ∀ a, a < 10 → ∀ b, b < 10 → a ≠ b → (TX12 a).2.1 ≠ (TX12 b).2.1 := by decide +kernel
theorem tyX12_ok : ∀ k, k < 10 → parseFieldDescriptor (TX12 k).2.2.1 = some (tyX12 k) := by decide +kernel
abbrev cX12_init : ByteArray := prog_15_method_1_code
def yX12_init : MethodName := ⟨RX12, "<init>", "()V"⟩
def RX13 : String := "LessonMakerModel$Stop"
def TX13 : u_T := fun k => match k with
  | 0 => ("java/lang/Throwable", "cause", "Ljava/lang/Throwable;", false)
  | 1 => ("java/lang/Throwable", "stackTrace", "[Ljava/lang/StackTraceElement;", false)
  | 2 => ("java/lang/Throwable", "suppressedExceptions", "Ljava/util/List;", false)
  | 3 => ("java/lang/Throwable", "detailMessage", "Ljava/lang/String;", false)
  | 4 => ("java/lang/Throwable", "backtrace", "Ljava/lang/Object;", false)
  | 5 => ("java/lang/Throwable", "depth", "I", false)
  | 6 => ("LessonMakerModel$Stop", "kind", "I", false)
  | _ => ("LessonMakerModel$Stop", "place", "I", false)
def tyX13 : Nat → FieldType := fun k => match k with
  | 0 => .object "java/lang/Throwable"
  | 1 => .array (.object "java/lang/StackTraceElement")
  | 2 => .object "java/util/List"
  | 3 => .object "java/lang/String"
  | 4 => .object "java/lang/Object"
  | 5 => .int
  | 6 => .int
  | _ => .int
theorem nmX13 : ∀ a, a < 8 → ∀ b, b < 8 → a ≠ b → (TX13 a).2.1 ≠ (TX13 b).2.1 := by decide +kernel
theorem tyX13_ok : ∀ k, k < 8 → parseFieldDescriptor (TX13 k).2.2.1 = some (tyX13 k) := by decide +kernel
abbrev cX13_init : ByteArray := prog_16_method_1_code
def yX13_init : MethodName := ⟨RX13, "<init>", "()V"⟩
def RX14 : String := "LessonMakerModel"
def TX14 : u_T := fun k => match k with
  | 0 => ("LessonMakerModel", "thrown", "I", false)
  | 1 => ("LessonMakerModel", "trouble", "I", false)
  | 2 => ("LessonMakerModel", "where", "I", false)
  | 3 => ("LessonMakerModel", "fault", "I", false)
  | 4 => ("LessonMakerModel", "p", "LLessonMakerModel$Program;", false)
  | 5 => ("LessonMakerModel", "past", "LLessonMakerModel$Program;", false)
  | 6 => ("LessonMakerModel", "spare", "LLessonMakerModel$Program;", false)
  | 7 => ("LessonMakerModel", "is", "Z", false)
  | 8 => ("LessonMakerModel", "isPast", "Z", false)
  | 9 => ("LessonMakerModel", "stop", "LLessonMakerModel$Stop;", true)
  | 10 => ("LessonMakerModel", "tape", "[B", true)
  | 11 => ("LessonMakerModel", "taped", "I", false)
  | 12 => ("LessonMakerModel", "size", "I", false)
  | 13 => ("LessonMakerModel", "at", "I", false)
  | 14 => ("LessonMakerModel", "sort", "I", false)
  | 15 => ("LessonMakerModel", "place", "I", false)
  | 16 => ("LessonMakerModel", "mark", "I", false)
  | 17 => ("LessonMakerModel", "number", "I", false)
  | 18 => ("LessonMakerModel", "letters", "I", false)
  | 19 => ("LessonMakerModel", "blocks", "I", false)
  | 20 => ("LessonMakerModel", "brackets", "I", false)
  | 21 => ("LessonMakerModel", "word", "J", false)
  | 22 => ("LessonMakerModel", "latest", "LLessonMakerModel$Run;", false)
  | 23 => ("LessonMakerModel", "work", "LLessonMakerModel$Run;", false)
  | 24 => ("LessonMakerModel", "hasRun", "Z", false)
  | 25 => ("LessonMakerModel", "pile", "[I", true)
  | 26 => ("LessonMakerModel", "piled", "I", false)
  | 27 => ("LessonMakerModel", "deep", "I", false)
  | 28 => ("LessonMakerModel", "fuel", "I", false)
  | 29 => ("LessonMakerModel", "rule", "I", false)
  | 30 => ("LessonMakerModel", "true1", "[I", true)
  | 31 => ("LessonMakerModel", "least", "[I", true)
  | 32 => ("LessonMakerModel", "runs", "I", false)
  | 33 => ("LessonMakerModel", "picks", "I", false)
  | 34 => ("LessonMakerModel", "runOf", "[I", true)
  | 35 => ("LessonMakerModel", "runX", "[I", true)
  | 36 => ("LessonMakerModel", "runY", "[I", true)
  | 37 => ("LessonMakerModel", "runZ", "[I", true)
  | 38 => ("LessonMakerModel", "picked", "[I", true)
  | _ => ("LessonMakerModel", "shows", "[J", true)
def tyX14 : Nat → FieldType := fun k => match k with
  | 0 => .int
  | 1 => .int
  | 2 => .int
  | 3 => .int
  | 4 => .object "LessonMakerModel$Program"
  | 5 => .object "LessonMakerModel$Program"
  | 6 => .object "LessonMakerModel$Program"
  | 7 => .boolean
  | 8 => .boolean
  | 9 => .object "LessonMakerModel$Stop"
  | 10 => .array .byte
  | 11 => .int
  | 12 => .int
  | 13 => .int
  | 14 => .int
  | 15 => .int
  | 16 => .int
  | 17 => .int
  | 18 => .int
  | 19 => .int
  | 20 => .int
  | 21 => .long
  | 22 => .object "LessonMakerModel$Run"
  | 23 => .object "LessonMakerModel$Run"
  | 24 => .boolean
  | 25 => .array .int
  | 26 => .int
  | 27 => .int
  | 28 => .int
  | 29 => .int
  | 30 => .array .int
  | 31 => .array .int
  | 32 => .int
  | 33 => .int
  | 34 => .array .int
  | 35 => .array .int
  | 36 => .array .int
  | 37 => .array .int
  | 38 => .array .int
  | _ => .array .long
theorem nmX14 : ∀ a, a < 40 → ∀ b, b < 40 → a ≠ b → (TX14 a).2.1 ≠ (TX14 b).2.1 := by decide +kernel
theorem tyX14_ok : ∀ k, k < 40 → parseFieldDescriptor (TX14 k).2.2.1 = some (tyX14 k) := by decide +kernel
abbrev cX14_init : ByteArray := prog_13_method_1_code
def yX14_init : MethodName := ⟨RX14, "<init>", "()V"⟩
abbrev cX14_thrown : ByteArray := prog_13_method_2_code
def yX14_thrown : MethodName := ⟨RX14, "thrown", "()I"⟩
abbrev cX14_refused : ByteArray := prog_13_method_3_code
def yX14_refused : MethodName := ⟨RX14, "refused", "(I)I"⟩
abbrev cX14_done : ByteArray := prog_13_method_4_code
def yX14_done : MethodName := ⟨RX14, "done", "(I)I"⟩
abbrev cX14_in : ByteArray := prog_13_method_5_code
def yX14_in : MethodName := ⟨RX14, "in", "(III)Z"⟩
abbrev cX14_bits : ByteArray := prog_13_method_6_code
def yX14_bits : MethodName := ⟨RX14, "bits", "(I)I"⟩
abbrev cX14_stop : ByteArray := prog_13_method_7_code
def yX14_stop : MethodName := ⟨RX14, "stop", "(II)LLessonMakerModel$Stop;"⟩
abbrev cX14_byteAt : ByteArray := prog_13_method_8_code
def yX14_byteAt : MethodName := ⟨RX14, "byteAt", "(I)I"⟩
abbrev cX14_isLetter : ByteArray := prog_13_method_9_code
def yX14_isLetter : MethodName := ⟨RX14, "isLetter", "(I)Z"⟩
abbrev cX14_isDigit : ByteArray := prog_13_method_10_code
def yX14_isDigit : MethodName := ⟨RX14, "isDigit", "(I)Z"⟩
abbrev cX14_wordOf : ByteArray := prog_13_method_11_code
def yX14_wordOf : MethodName := ⟨RX14, "wordOf", "(Ljava/lang/String;)J"⟩
abbrev cX14_next : ByteArray := prog_13_method_12_code
def yX14_next : MethodName := ⟨RX14, "next", "()V"⟩
abbrev cX14_isMark : ByteArray := prog_13_method_13_code
def yX14_isMark : MethodName := ⟨RX14, "isMark", "(I)Z"⟩
abbrev cX14_isWord : ByteArray := prog_13_method_14_code
def yX14_isWord : MethodName := ⟨RX14, "isWord", "(Ljava/lang/String;)Z"⟩
abbrev cX14_is : ByteArray := prog_13_method_15_code
def yX14_is : MethodName := ⟨RX14, "is", "(I)Z"⟩
abbrev cX14_need : ByteArray := prog_13_method_16_code
def yX14_need : MethodName := ⟨RX14, "need", "(I)V"⟩
abbrev cX14_isPlace : ByteArray := prog_13_method_17_code
def yX14_isPlace : MethodName := ⟨RX14, "isPlace", "()Z"⟩
abbrev cX14_isName : ByteArray := prog_13_method_18_code
def yX14_isName : MethodName := ⟨RX14, "isName", "()Z"⟩
abbrev cX14_reads : ByteArray := prog_13_method_19_code
def yX14_reads : MethodName := ⟨RX14, "reads", "()V"⟩
abbrev cX14_readFunction : ByteArray := prog_13_method_20_code
def yX14_readFunction : MethodName := ⟨RX14, "readFunction", "()V"⟩
abbrev cX14_readBlock : ByteArray := prog_13_method_21_code
def yX14_readBlock : MethodName := ⟨RX14, "readBlock", "(II)I"⟩
abbrev cX14_readLine : ByteArray := prog_13_method_22_code
def yX14_readLine : MethodName := ⟨RX14, "readLine", "(II)I"⟩
abbrev cX14_readSum : ByteArray := prog_13_method_23_code
def yX14_readSum : MethodName := ⟨RX14, "readSum", "()V"⟩
abbrev cX14_readTerm : ByteArray := prog_13_method_24_code
def yX14_readTerm : MethodName := ⟨RX14, "readTerm", "()V"⟩
abbrev cX14_opens : ByteArray := prog_13_method_25_code
def yX14_opens : MethodName := ⟨RX14, "opens", "()V"⟩
abbrev cX14_canBegin : ByteArray := prog_13_method_26_code
def yX14_canBegin : MethodName := ⟨RX14, "canBegin", "()Z"⟩
abbrev cX14_readPart : ByteArray := prog_13_method_27_code
def yX14_readPart : MethodName := ⟨RX14, "readPart", "()V"⟩
abbrev cX14_texts : ByteArray := prog_13_method_28_code
def yX14_texts : MethodName := ⟨RX14, "texts", "()V"⟩
abbrev cX14_feed : ByteArray := prog_13_method_29_code
def yX14_feed : MethodName := ⟨RX14, "feed", "(IIIII)I"⟩
abbrev cX14_program : ByteArray := prog_13_method_30_code
def yX14_program : MethodName := ⟨RX14, "program", "(I)I"⟩
abbrev cX14_fault : ByteArray := prog_13_method_31_code
def yX14_fault : MethodName := ⟨RX14, "fault", "()I"⟩
abbrev cX14_where : ByteArray := prog_13_method_32_code
def yX14_where : MethodName := ⟨RX14, "where", "()I"⟩
abbrev cX14_isFunction : ByteArray := prog_13_method_33_code
def yX14_isFunction : MethodName := ⟨RX14, "isFunction", "(I)Z"⟩
abbrev cX14_isLine : ByteArray := prog_13_method_34_code
def yX14_isLine : MethodName := ⟨RX14, "isLine", "(I)Z"⟩
abbrev cX14_function : ByteArray := prog_13_method_35_code
def yX14_function : MethodName := ⟨RX14, "function", "(II)I"⟩
abbrev cX14_name : ByteArray := prog_13_method_36_code
def yX14_name : MethodName := ⟨RX14, "name", "(II)I"⟩
abbrev cX14_line : ByteArray := prog_13_method_37_code
def yX14_line : MethodName := ⟨RX14, "line", "(II)I"⟩
abbrev cX14_runs : ByteArray := prog_13_method_38_code
def yX14_runs : MethodName := ⟨RX14, "runs", "(IIIIII)V"⟩
abbrev cX14_calls : ByteArray := prog_13_method_39_code
def yX14_calls : MethodName := ⟨RX14, "calls", "(I)I"⟩
abbrev cX14_behind : ByteArray := prog_13_method_40_code
def yX14_behind : MethodName := ⟨RX14, "behind", "(I)I"⟩
abbrev cX14_says : ByteArray := prog_13_method_41_code
def yX14_says : MethodName := ⟨RX14, "says", "(I)V"⟩
abbrev cX14_traces : ByteArray := prog_13_method_42_code
def yX14_traces : MethodName := ⟨RX14, "traces", "(III)V"⟩
abbrev cX14_worked : ByteArray := prog_13_method_43_code
def yX14_worked : MethodName := ⟨RX14, "worked", "(II)I"⟩
abbrev cX14_both : ByteArray := prog_13_method_44_code
def yX14_both : MethodName := ⟨RX14, "both", "(III)I"⟩
abbrev cX14_run : ByteArray := prog_13_method_45_code
def yX14_run : MethodName := ⟨RX14, "run", "(IIIII)I"⟩
abbrev cX14_lines : ByteArray := prog_13_method_46_code
def yX14_lines : MethodName := ⟨RX14, "lines", "(J)I"⟩
abbrev cX14_ran : ByteArray := prog_13_method_47_code
def yX14_ran : MethodName := ⟨RX14, "ran", "(I)I"⟩
abbrev cX14_said : ByteArray := prog_13_method_48_code
def yX14_said : MethodName := ⟨RX14, "said", "(I)I"⟩
abbrev cX14_trace : ByteArray := prog_13_method_49_code
def yX14_trace : MethodName := ⟨RX14, "trace", "(II)I"⟩
abbrev cX14_covered : ByteArray := prog_13_method_50_code
def yX14_covered : MethodName := ⟨RX14, "covered", "(I)I"⟩
abbrev cX14_place : ByteArray := prog_13_method_51_code
def yX14_place : MethodName := ⟨RX14, "place", "(I)I"⟩
abbrev cX14_wrong : ByteArray := prog_13_method_52_code
def yX14_wrong : MethodName := ⟨RX14, "wrong", "(IIIII)I"⟩
abbrev cX14_unlike : ByteArray := prog_13_method_53_code
def yX14_unlike : MethodName := ⟨RX14, "unlike", "(IIII)I"⟩
abbrev cX14_costs : ByteArray := prog_13_method_54_code
def yX14_costs : MethodName := ⟨RX14, "costs", "(II)I"⟩
abbrev cX14_orders : ByteArray := prog_13_method_55_code
def yX14_orders : MethodName := ⟨RX14, "orders", "()V"⟩
abbrev cX14_order : ByteArray := prog_13_method_56_code
def yX14_order : MethodName := ⟨RX14, "order", "()I"⟩
abbrev cX14_chapter : ByteArray := prog_13_method_57_code
def yX14_chapter : MethodName := ⟨RX14, "chapter", "(I)I"⟩
abbrev cX14_tell : ByteArray := prog_13_method_58_code
def yX14_tell : MethodName := ⟨RX14, "tell", "(IIII)I"⟩
abbrev cX14_shownBy : ByteArray := prog_13_method_59_code
def yX14_shownBy : MethodName := ⟨RX14, "shownBy", "()J"⟩
abbrev cX14_shown : ByteArray := prog_13_method_60_code
def yX14_shown : MethodName := ⟨RX14, "shown", "()I"⟩
abbrev cX14_fewest : ByteArray := prog_13_method_61_code
def yX14_fewest : MethodName := ⟨RX14, "fewest", "()I"⟩
abbrev cX14_picked : ByteArray := prog_13_method_62_code
def yX14_picked : MethodName := ⟨RX14, "picked", "(I)I"⟩
abbrev cX14_isNew : ByteArray := prog_13_method_63_code
def yX14_isNew : MethodName := ⟨RX14, "isNew", "(I)Z"⟩
abbrev cX14_anew : ByteArray := prog_13_method_64_code
def yX14_anew : MethodName := ⟨RX14, "anew", "(I)I"⟩
abbrev cX14_gone : ByteArray := prog_13_method_65_code
def yX14_gone : MethodName := ⟨RX14, "gone", "()I"⟩
abbrev cX14_count : ByteArray := prog_13_method_66_code
def yX14_count : MethodName := ⟨RX14, "count", "(I)I"⟩
abbrev cX14_trouble : ByteArray := prog_13_method_67_code
def yX14_trouble : MethodName := ⟨RX14, "trouble", "()I"⟩
def RJ6 : String := "java/lang/Integer"
def TJ6 : u_T := fun k => match k with
  | _ => ("", "", "", false)
def tyJ6 : Nat → FieldType := fun k => match k with
  | _ => .int
theorem nmJ6 : ∀ a, a < 0 → ∀ b, b < 0 → a ≠ b → (TJ6 a).2.1 ≠ (TJ6 b).2.1 := by decide +kernel
theorem tyJ6_ok : ∀ k, k < 0 → parseFieldDescriptor (TJ6 k).2.2.1 = some (tyJ6 k) := by decide +kernel
abbrev cJ6_bitCount_0f7a4 : ByteArray := prog_18_method_49_code
def yJ6_bitCount_0f7a4 : MethodName := ⟨RJ6, "bitCount", "(I)I"⟩
def RJ13 : String := "java/lang/Long"
def TJ13 : u_T := fun k => match k with
  | _ => ("", "", "", false)
def tyJ13 : Nat → FieldType := fun k => match k with
  | _ => .int
theorem nmJ13 : ∀ a, a < 0 → ∀ b, b < 0 → a ≠ b → (TJ13 a).2.1 ≠ (TJ13 b).2.1 := by decide +kernel
theorem tyJ13_ok : ∀ k, k < 0 → parseFieldDescriptor (TJ13 k).2.2.1 = some (tyJ13 k) := by decide +kernel
abbrev cJ13_bitCount_95d88 : ByteArray := prog_19_method_50_code
def yJ13_bitCount_95d88 : MethodName := ⟨RJ13, "bitCount", "(J)I"⟩
def RJ9 : String := "java/lang/Math"
def TJ9 : u_T := fun k => match k with
  | _ => ("", "", "", false)
def tyJ9 : Nat → FieldType := fun k => match k with
  | _ => .int
theorem nmJ9 : ∀ a, a < 0 → ∀ b, b < 0 → a ≠ b → (TJ9 a).2.1 ≠ (TJ9 b).2.1 := by decide +kernel
theorem tyJ9_ok : ∀ k, k < 0 → parseFieldDescriptor (TJ9 k).2.2.1 = some (tyJ9 k) := by decide +kernel
abbrev cJ9_max_7cf53 : ByteArray := prog_20_method_65_code
def yJ9_max_7cf53 : MethodName := ⟨RJ9, "max", "(II)I"⟩
abbrev cJ9_min_7cf53 : ByteArray := prog_20_method_69_code
def yJ9_min_7cf53 : MethodName := ⟨RJ9, "min", "(II)I"⟩
def RJ0 : String := "java/lang/String"
def TJ0 : u_T := fun k => match k with
  | _ => ("", "", "", false)
def tyJ0 : Nat → FieldType := fun k => match k with
  | _ => .int
theorem nmJ0 : ∀ a, a < 0 → ∀ b, b < 0 → a ≠ b → (TJ0 a).2.1 ≠ (TJ0 b).2.1 := by decide +kernel
theorem tyJ0_ok : ∀ k, k < 0 → parseFieldDescriptor (TJ0 k).2.2.1 = some (tyJ0 k) := by decide +kernel
abbrev cJ0_length_8abf5 : ByteArray := prog_22_method_54_code
def yJ0_length_8abf5 : MethodName := ⟨RJ0, "length", "()I"⟩
abbrev cJ0_charAt_5068e : ByteArray := prog_22_method_56_code
def yJ0_charAt_5068e : MethodName := ⟨RJ0, "charAt", "(I)C"⟩
abbrev cJ0_coder_7d493 : ByteArray := prog_22_method_152_code
def yJ0_coder_7d493 : MethodName := ⟨RJ0, "coder", "()B"⟩
abbrev cJ0_isLatin1_aae02 : ByteArray := prog_22_method_154_code
def yJ0_isLatin1_aae02 : MethodName := ⟨RJ0, "isLatin1", "()Z"⟩
abbrev cJ0_checkIndex_df160 : ByteArray := prog_22_method_155_code
def yJ0_checkIndex_df160 : MethodName := ⟨RJ0, "checkIndex", "(II)V"⟩
def RJ1 : String := "java/lang/StringLatin1"
def TJ1 : u_T := fun k => match k with
  | _ => ("", "", "", false)
def tyJ1 : Nat → FieldType := fun k => match k with
  | _ => .int
theorem nmJ1 : ∀ a, a < 0 → ∀ b, b < 0 → a ≠ b → (TJ1 a).2.1 ≠ (TJ1 b).2.1 := by decide +kernel
theorem tyJ1_ok : ∀ k, k < 0 → parseFieldDescriptor (TJ1 k).2.2.1 = some (tyJ1 k) := by decide +kernel
abbrev cJ1_charAt_3b067 : ByteArray := prog_23_method_2_code
def yJ1_charAt_3b067 : MethodName := ⟨RJ1, "charAt", "([BI)C"⟩
def RJ2 : String := "java/lang/StringUTF16"
def TJ2 : u_T := fun k => match k with
  | _ => ("", "", "", false)
def tyJ2 : Nat → FieldType := fun k => match k with
  | _ => .int
theorem nmJ2 : ∀ a, a < 0 → ∀ b, b < 0 → a ≠ b → (TJ2 a).2.1 ≠ (TJ2 b).2.1 := by decide +kernel
theorem tyJ2_ok : ∀ k, k < 0 → parseFieldDescriptor (TJ2 k).2.2.1 = some (tyJ2 k) := by decide +kernel
abbrev cJ2_getChar_3b067 : ByteArray := prog_24_method_5_code
def yJ2_getChar_3b067 : MethodName := ⟨RJ2, "getChar", "([BI)C"⟩
abbrev cJ2_length_9d52b : ByteArray := prog_24_method_6_code
def yJ2_length_9d52b : MethodName := ⟨RJ2, "length", "([B)I"⟩
abbrev cJ2_charAt_3b067 : ByteArray := prog_24_method_83_code
def yJ2_charAt_3b067 : MethodName := ⟨RJ2, "charAt", "([BI)C"⟩
abbrev cJ2_checkIndex_2214a : ByteArray := prog_24_method_91_code
def yJ2_checkIndex_2214a : MethodName := ⟨RJ2, "checkIndex", "(I[B)V"⟩
def RJ10 : String := "java/lang/System"
def TJ10 : u_T := fun k => match k with
  | _ => ("", "", "", false)
def tyJ10 : Nat → FieldType := fun k => match k with
  | _ => .int
theorem nmJ10 : ∀ a, a < 0 → ∀ b, b < 0 → a ≠ b → (TJ10 a).2.1 ≠ (TJ10 b).2.1 := by decide +kernel
theorem tyJ10_ok : ∀ k, k < 0 → parseFieldDescriptor (TJ10 k).2.2.1 = some (tyJ10 k) := by decide +kernel
def RJ3 : String := "jdk/internal/util/Preconditions"
def TJ3 : u_T := fun k => match k with
  | _ => ("", "", "", false)
def tyJ3 : Nat → FieldType := fun k => match k with
  | _ => .int
theorem nmJ3 : ∀ a, a < 0 → ∀ b, b < 0 → a ≠ b → (TJ3 a).2.1 ≠ (TJ3 b).2.1 := by decide +kernel
theorem tyJ3_ok : ∀ k, k < 0 → parseFieldDescriptor (TJ3 k).2.2.1 = some (tyJ3 k) := by decide +kernel
abbrev cJ3_checkIndex_8e157 : ByteArray := prog_28_method_11_code
def yJ3_checkIndex_8e157 : MethodName := ⟨RJ3, "checkIndex", "(IILjava/util/function/BiFunction;)I"⟩
def RL : String := "LessonMakerLaw"
abbrev cL_name : ByteArray := method_3_code
def yL_name : MethodName := ⟨RL, "name", "(LLessonMaker;II[J)I"⟩
abbrev cL_said : ByteArray := method_4_code
def yL_said : MethodName := ⟨RL, "said", "(LLessonMaker;I[J)I"⟩
abbrev cL_trace : ByteArray := method_5_code
def yL_trace : MethodName := ⟨RL, "trace", "(LLessonMaker;II[J)I"⟩
abbrev cL_law : ByteArray := code
def yL_law : MethodName := ⟨RL, "law", "([I)Z"⟩
abbrev vwCl : List vw_C := [(RX0, TX0, 3), (RX1, TX1, 4), (RX2, TX2, 9), (RX3, TX3, 3), (RX4, TX4, 4), (RX5, TX5, 19), (RX6, TX6, 6), (RX7, TX7, 12), (RX8, TX8, 6), (RX9, TX9, 5), (RX10, TX10, 14), (RX11, TX11, 30), (RX12, TX12, 10), (RX13, TX13, 8), (RX14, TX14, 40)]
end
section
theorem dX0_init_0 : decode cX0_init 0 = .ok (.aload_n 0, 1) := by decide +kernel
theorem dX0_init_1 : decode cX0_init 1 = .ok (.invokespecial 5, 3) := by decide +kernel
theorem dX0_init_4 : decode cX0_init 4 = .ok (.aload_n 0, 1) := by decide +kernel
theorem dX0_init_5 : decode cX0_init 5 = .ok (.sipush 1024, 3) := by decide +kernel
theorem dX0_init_8 : decode cX0_init 8 = .ok (.newarray .int, 2) := by decide +kernel
theorem dX0_init_10 : decode cX0_init 10 = .ok (.putfield 11, 3) := by decide +kernel
theorem dX0_init_13 : decode cX0_init 13 = .ok (.aload_n 0, 1) := by decide +kernel
theorem dX0_init_14 : decode cX0_init 14 = .ok (.bipush 10, 2) := by decide +kernel
theorem dX0_init_16 : decode cX0_init 16 = .ok (.newarray .int, 2) := by decide +kernel
theorem dX0_init_18 : decode cX0_init 18 = .ok (.putfield 17, 3) := by decide +kernel
theorem dX0_init_21 : decode cX0_init 21 = .ok (.return_, 1) := by decide +kernel
theorem dX1_init_0 : decode cX1_init 0 = .ok (.aload_n 0, 1) := by decide +kernel
theorem dX1_init_1 : decode cX1_init 1 = .ok (.invokespecial 3, 3) := by decide +kernel
theorem dX1_init_4 : decode cX1_init 4 = .ok (.aload_n 0, 1) := by decide +kernel
theorem dX1_init_5 : decode cX1_init 5 = .ok (.sipush 1200, 3) := by decide +kernel
theorem dX1_init_8 : decode cX1_init 8 = .ok (.newarray .int, 2) := by decide +kernel
theorem dX1_init_10 : decode cX1_init 10 = .ok (.putfield 11, 3) := by decide +kernel
theorem dX1_init_13 : decode cX1_init 13 = .ok (.aload_n 0, 1) := by decide +kernel
theorem dX1_init_14 : decode cX1_init 14 = .ok (.sipush 1200, 3) := by decide +kernel
theorem dX1_init_17 : decode cX1_init 17 = .ok (.newarray .int, 2) := by decide +kernel
theorem dX1_init_19 : decode cX1_init 19 = .ok (.putfield 15, 3) := by decide +kernel
theorem dX1_init_22 : decode cX1_init 22 = .ok (.aload_n 0, 1) := by decide +kernel
theorem dX1_init_23 : decode cX1_init 23 = .ok (.sipush 1200, 3) := by decide +kernel
theorem dX1_init_26 : decode cX1_init 26 = .ok (.newarray .int, 2) := by decide +kernel
theorem dX1_init_28 : decode cX1_init 28 = .ok (.putfield 18, 3) := by decide +kernel
theorem dX1_init_31 : decode cX1_init 31 = .ok (.return_, 1) := by decide +kernel
theorem dX1_clear_0 : decode cX1_clear 0 = .ok (.aload_n 0, 1) := by decide +kernel
theorem dX1_clear_1 : decode cX1_clear 1 = .ok (.iconst 0, 1) := by decide +kernel
theorem dX1_clear_2 : decode cX1_clear 2 = .ok (.putfield 21, 3) := by decide +kernel
theorem dX1_clear_5 : decode cX1_clear 5 = .ok (.return_, 1) := by decide +kernel
theorem dX2_init_0 : decode cX2_init 0 = .ok (.aload_n 0, 1) := by decide +kernel
theorem dX2_init_1 : decode cX2_init 1 = .ok (.invokespecial 1, 3) := by decide +kernel
theorem dX2_init_4 : decode cX2_init 4 = .ok (.aload_n 0, 1) := by decide +kernel
theorem dX2_init_5 : decode cX2_init 5 = .ok (.iconst 3, 1) := by decide +kernel
theorem dX2_init_6 : decode cX2_init 6 = .ok (.newarray .int, 2) := by decide +kernel
theorem dX2_init_8 : decode cX2_init 8 = .ok (.putfield 9, 3) := by decide +kernel
theorem dX2_init_11 : decode cX2_init 11 = .ok (.return_, 1) := by decide +kernel
theorem dX3_init_0 : decode cX3_init 0 = .ok (.aload_n 0, 1) := by decide +kernel
theorem dX3_init_1 : decode cX3_init 1 = .ok (.invokespecial 3, 3) := by decide +kernel
theorem dX3_init_4 : decode cX3_init 4 = .ok (.aload_n 0, 1) := by decide +kernel
theorem dX3_init_5 : decode cX3_init 5 = .ok (.bipush 10, 2) := by decide +kernel
theorem dX3_init_7 : decode cX3_init 7 = .ok (.newarray .int, 2) := by decide +kernel
theorem dX3_init_9 : decode cX3_init 9 = .ok (.putfield 11, 3) := by decide +kernel
theorem dX3_init_12 : decode cX3_init 12 = .ok (.aload_n 0, 1) := by decide +kernel
theorem dX3_init_13 : decode cX3_init 13 = .ok (.bipush 10, 2) := by decide +kernel
theorem dX3_init_15 : decode cX3_init 15 = .ok (.newarray .int, 2) := by decide +kernel
theorem dX3_init_17 : decode cX3_init 17 = .ok (.putfield 17, 3) := by decide +kernel
theorem dX3_init_20 : decode cX3_init 20 = .ok (.return_, 1) := by decide +kernel
theorem dX4_init_0 : decode cX4_init 0 = .ok (.aload_n 0, 1) := by decide +kernel
theorem dX4_init_1 : decode cX4_init 1 = .ok (.invokespecial 1, 3) := by decide +kernel
theorem dX4_init_4 : decode cX4_init 4 = .ok (.return_, 1) := by decide +kernel
theorem dX5_init_0 : decode cX5_init 0 = .ok (.aload_n 0, 1) := by decide +kernel
theorem dX5_init_1 : decode cX5_init 1 = .ok (.invokespecial 5, 3) := by decide +kernel
theorem dX5_init_4 : decode cX5_init 4 = .ok (.aload_n 0, 1) := by decide +kernel
theorem dX5_init_5 : decode cX5_init 5 = .ok (.bipush 60, 2) := by decide +kernel
theorem dX5_init_7 : decode cX5_init 7 = .ok (.newarray .int, 2) := by decide +kernel
theorem dX5_init_9 : decode cX5_init 9 = .ok (.putfield 11, 3) := by decide +kernel
theorem dX5_init_12 : decode cX5_init 12 = .ok (.aload_n 0, 1) := by decide +kernel
theorem dX5_init_13 : decode cX5_init 13 = .ok (.sipush 1600, 3) := by decide +kernel
theorem dX5_init_16 : decode cX5_init 16 = .ok (.newarray .int, 2) := by decide +kernel
theorem dX5_init_18 : decode cX5_init 18 = .ok (.putfield 15, 3) := by decide +kernel
theorem dX5_init_21 : decode cX5_init 21 = .ok (.aload_n 0, 1) := by decide +kernel
theorem dX5_init_22 : decode cX5_init 22 = .ok (.bipush 64, 2) := by decide +kernel
theorem dX5_init_24 : decode cX5_init 24 = .ok (.newarray .int, 2) := by decide +kernel
theorem dX5_init_26 : decode cX5_init 26 = .ok (.putfield 18, 3) := by decide +kernel
theorem dX5_init_29 : decode cX5_init 29 = .ok (.aload_n 0, 1) := by decide +kernel
theorem dX5_init_30 : decode cX5_init 30 = .ok (.bipush 8, 2) := by decide +kernel
theorem dX5_init_32 : decode cX5_init 32 = .ok (.newarray .int, 2) := by decide +kernel
theorem dX5_init_34 : decode cX5_init 34 = .ok (.putfield 21, 3) := by decide +kernel
theorem dX5_init_37 : decode cX5_init 37 = .ok (.aload_n 0, 1) := by decide +kernel
theorem dX5_init_38 : decode cX5_init 38 = .ok (.sipush 288, 3) := by decide +kernel
theorem dX5_init_41 : decode cX5_init 41 = .ok (.newarray .int, 2) := by decide +kernel
theorem dX5_init_43 : decode cX5_init 43 = .ok (.putfield 24, 3) := by decide +kernel
theorem dX5_init_46 : decode cX5_init 46 = .ok (.return_, 1) := by decide +kernel
theorem dX6_init_0 : decode cX6_init 0 = .ok (.aload_n 0, 1) := by decide +kernel
theorem dX6_init_1 : decode cX6_init 1 = .ok (.invokespecial 3, 3) := by decide +kernel
theorem dX6_init_4 : decode cX6_init 4 = .ok (.aload_n 0, 1) := by decide +kernel
theorem dX6_init_5 : decode cX6_init 5 = .ok (.new 9, 3) := by decide +kernel
theorem dX6_init_8 : decode cX6_init 8 = .ok (.dup, 1) := by decide +kernel
theorem dX6_init_9 : decode cX6_init 9 = .ok (.invokespecial 11, 3) := by decide +kernel
theorem dX6_init_12 : decode cX6_init 12 = .ok (.putfield 12, 3) := by decide +kernel
theorem dX6_init_15 : decode cX6_init 15 = .ok (.aload_n 0, 1) := by decide +kernel
theorem dX6_init_16 : decode cX6_init 16 = .ok (.new 18, 3) := by decide +kernel
theorem dX6_init_19 : decode cX6_init 19 = .ok (.dup, 1) := by decide +kernel
theorem dX6_init_20 : decode cX6_init 20 = .ok (.invokespecial 20, 3) := by decide +kernel
theorem dX6_init_23 : decode cX6_init 23 = .ok (.putfield 21, 3) := by decide +kernel
theorem dX6_init_26 : decode cX6_init 26 = .ok (.aload_n 0, 1) := by decide +kernel
theorem dX6_init_27 : decode cX6_init 27 = .ok (.bipush 10, 2) := by decide +kernel
theorem dX6_init_29 : decode cX6_init 29 = .ok (.anewarray 25, 3) := by decide +kernel
theorem dX6_init_32 : decode cX6_init 32 = .ok (.putfield 27, 3) := by decide +kernel
theorem dX6_init_35 : decode cX6_init 35 = .ok (.iconst 0, 1) := by decide +kernel
theorem dX6_init_36 : decode cX6_init 36 = .ok (.istore_n 1, 1) := by decide +kernel
theorem dX6_init_37 : decode cX6_init 37 = .ok (.iload_n 1, 1) := by decide +kernel
theorem dX6_init_38 : decode cX6_init 38 = .ok (.bipush 10, 2) := by decide +kernel
theorem dX6_init_40 : decode cX6_init 40 = .ok (.if_icmp .ge 22, 3) := by decide +kernel
theorem dX6_init_43 : decode cX6_init 43 = .ok (.aload_n 0, 1) := by decide +kernel
theorem dX6_init_44 : decode cX6_init 44 = .ok (.getfield 27, 3) := by decide +kernel
theorem dX6_init_47 : decode cX6_init 47 = .ok (.iload_n 1, 1) := by decide +kernel
theorem dX6_init_48 : decode cX6_init 48 = .ok (.new 25, 3) := by decide +kernel
theorem dX6_init_51 : decode cX6_init 51 = .ok (.dup, 1) := by decide +kernel
theorem dX6_init_52 : decode cX6_init 52 = .ok (.invokespecial 31, 3) := by decide +kernel
theorem dX6_init_55 : decode cX6_init 55 = .ok (.aastore, 1) := by decide +kernel
theorem dX6_init_56 : decode cX6_init 56 = .ok (.iinc 1 1, 3) := by decide +kernel
theorem dX6_init_59 : decode cX6_init 59 = .ok (.goto (-22), 3) := by decide +kernel
theorem dX6_init_62 : decode cX6_init 62 = .ok (.aload_n 0, 1) := by decide +kernel
theorem dX6_init_63 : decode cX6_init 63 = .ok (.bipush 60, 2) := by decide +kernel
theorem dX6_init_65 : decode cX6_init 65 = .ok (.anewarray 32, 3) := by decide +kernel
theorem dX6_init_68 : decode cX6_init 68 = .ok (.putfield 34, 3) := by decide +kernel
theorem dX6_init_71 : decode cX6_init 71 = .ok (.iconst 0, 1) := by decide +kernel
theorem dX6_init_72 : decode cX6_init 72 = .ok (.istore_n 1, 1) := by decide +kernel
theorem dX6_init_73 : decode cX6_init 73 = .ok (.iload_n 1, 1) := by decide +kernel
theorem dX6_init_74 : decode cX6_init 74 = .ok (.bipush 60, 2) := by decide +kernel
theorem dX6_init_76 : decode cX6_init 76 = .ok (.if_icmp .ge 22, 3) := by decide +kernel
theorem dX6_init_79 : decode cX6_init 79 = .ok (.aload_n 0, 1) := by decide +kernel
theorem dX6_init_80 : decode cX6_init 80 = .ok (.getfield 34, 3) := by decide +kernel
theorem dX6_init_83 : decode cX6_init 83 = .ok (.iload_n 1, 1) := by decide +kernel
theorem dX6_init_84 : decode cX6_init 84 = .ok (.new 32, 3) := by decide +kernel
theorem dX6_init_87 : decode cX6_init 87 = .ok (.dup, 1) := by decide +kernel
theorem dX6_init_88 : decode cX6_init 88 = .ok (.invokespecial 38, 3) := by decide +kernel
theorem dX6_init_91 : decode cX6_init 91 = .ok (.aastore, 1) := by decide +kernel
theorem dX6_init_92 : decode cX6_init 92 = .ok (.iinc 1 1, 3) := by decide +kernel
theorem dX6_init_95 : decode cX6_init 95 = .ok (.goto (-22), 3) := by decide +kernel
theorem dX6_init_98 : decode cX6_init 98 = .ok (.return_, 1) := by decide +kernel
theorem dX6_clear_0 : decode cX6_clear 0 = .ok (.aload_n 0, 1) := by decide +kernel
theorem dX6_clear_1 : decode cX6_clear 1 = .ok (.iconst 0, 1) := by decide +kernel
theorem dX6_clear_2 : decode cX6_clear 2 = .ok (.putfield 39, 3) := by decide +kernel
theorem dX6_clear_5 : decode cX6_clear 5 = .ok (.aload_n 0, 1) := by decide +kernel
theorem dX6_clear_6 : decode cX6_clear 6 = .ok (.iconst 0, 1) := by decide +kernel
theorem dX6_clear_7 : decode cX6_clear 7 = .ok (.putfield 43, 3) := by decide +kernel
theorem dX6_clear_10 : decode cX6_clear 10 = .ok (.aload_n 0, 1) := by decide +kernel
theorem dX6_clear_11 : decode cX6_clear 11 = .ok (.getfield 21, 3) := by decide +kernel
theorem dX6_clear_14 : decode cX6_clear 14 = .ok (.invokevirtual 46, 3) := by decide +kernel
theorem dX6_clear_17 : decode cX6_clear 17 = .ok (.return_, 1) := by decide +kernel
theorem dX6_hasFunction_0 : decode cX6_hasFunction 0 = .ok (.iload_n 1, 1) := by decide +kernel
theorem dX6_hasFunction_1 : decode cX6_hasFunction 1 = .ok (.ifCond .lt 24, 3) := by decide +kernel
theorem dX6_hasFunction_4 : decode cX6_hasFunction 4 = .ok (.iload_n 1, 1) := by decide +kernel
theorem dX6_hasFunction_5 : decode cX6_hasFunction 5 = .ok (.aload_n 0, 1) := by decide +kernel
theorem dX6_hasFunction_6 : decode cX6_hasFunction 6 = .ok (.getfield 39, 3) := by decide +kernel
theorem dX6_hasFunction_9 : decode cX6_hasFunction 9 = .ok (.if_icmp .ge 16, 3) := by decide +kernel
theorem dX6_hasFunction_12 : decode cX6_hasFunction 12 = .ok (.iload_n 1, 1) := by decide +kernel
theorem dX6_hasFunction_13 : decode cX6_hasFunction 13 = .ok (.aload_n 0, 1) := by decide +kernel
theorem dX6_hasFunction_14 : decode cX6_hasFunction 14 = .ok (.getfield 27, 3) := by decide +kernel
theorem dX6_hasFunction_17 : decode cX6_hasFunction 17 = .ok (.arraylength, 1) := by decide +kernel
theorem dX6_hasFunction_18 : decode cX6_hasFunction 18 = .ok (.if_icmp .ge 7, 3) := by decide +kernel
theorem dX6_hasFunction_21 : decode cX6_hasFunction 21 = .ok (.iconst 1, 1) := by decide +kernel
theorem dX6_hasFunction_22 : decode cX6_hasFunction 22 = .ok (.goto 4, 3) := by decide +kernel
theorem dX6_hasFunction_25 : decode cX6_hasFunction 25 = .ok (.iconst 0, 1) := by decide +kernel
theorem dX6_hasFunction_26 : decode cX6_hasFunction 26 = .ok (.ireturn, 1) := by decide +kernel
theorem dX6_hasLine_0 : decode cX6_hasLine 0 = .ok (.iload_n 1, 1) := by decide +kernel
theorem dX6_hasLine_1 : decode cX6_hasLine 1 = .ok (.ifCond .lt 24, 3) := by decide +kernel
theorem dX6_hasLine_4 : decode cX6_hasLine 4 = .ok (.iload_n 1, 1) := by decide +kernel
theorem dX6_hasLine_5 : decode cX6_hasLine 5 = .ok (.aload_n 0, 1) := by decide +kernel
theorem dX6_hasLine_6 : decode cX6_hasLine 6 = .ok (.getfield 43, 3) := by decide +kernel
theorem dX6_hasLine_9 : decode cX6_hasLine 9 = .ok (.if_icmp .ge 16, 3) := by decide +kernel
theorem dX6_hasLine_12 : decode cX6_hasLine 12 = .ok (.iload_n 1, 1) := by decide +kernel
theorem dX6_hasLine_13 : decode cX6_hasLine 13 = .ok (.aload_n 0, 1) := by decide +kernel
theorem dX6_hasLine_14 : decode cX6_hasLine 14 = .ok (.getfield 34, 3) := by decide +kernel
theorem dX6_hasLine_17 : decode cX6_hasLine 17 = .ok (.arraylength, 1) := by decide +kernel
theorem dX6_hasLine_18 : decode cX6_hasLine 18 = .ok (.if_icmp .ge 7, 3) := by decide +kernel
theorem dX6_hasLine_21 : decode cX6_hasLine 21 = .ok (.iconst 1, 1) := by decide +kernel
theorem dX6_hasLine_22 : decode cX6_hasLine 22 = .ok (.goto 4, 3) := by decide +kernel
theorem dX6_hasLine_25 : decode cX6_hasLine 25 = .ok (.iconst 0, 1) := by decide +kernel
theorem dX6_hasLine_26 : decode cX6_hasLine 26 = .ok (.ireturn, 1) := by decide +kernel
theorem dX7_init_0 : decode cX7_init 0 = .ok (.aload_n 0, 1) := by decide +kernel
theorem dX7_init_1 : decode cX7_init 1 = .ok (.invokespecial 3, 3) := by decide +kernel
theorem dX7_init_4 : decode cX7_init 4 = .ok (.aload_n 0, 1) := by decide +kernel
theorem dX7_init_5 : decode cX7_init 5 = .ok (.sipush 150, 3) := by decide +kernel
theorem dX7_init_8 : decode cX7_init 8 = .ok (.newarray .int, 2) := by decide +kernel
theorem dX7_init_10 : decode cX7_init 10 = .ok (.putfield 11, 3) := by decide +kernel
theorem dX7_init_13 : decode cX7_init 13 = .ok (.aload_n 0, 1) := by decide +kernel
theorem dX7_init_14 : decode cX7_init 14 = .ok (.sipush 150, 3) := by decide +kernel
theorem dX7_init_17 : decode cX7_init 17 = .ok (.newarray .int, 2) := by decide +kernel
theorem dX7_init_19 : decode cX7_init 19 = .ok (.putfield 15, 3) := by decide +kernel
theorem dX7_init_22 : decode cX7_init 22 = .ok (.aload_n 0, 1) := by decide +kernel
theorem dX7_init_23 : decode cX7_init 23 = .ok (.sipush 150, 3) := by decide +kernel
theorem dX7_init_26 : decode cX7_init 26 = .ok (.newarray .int, 2) := by decide +kernel
theorem dX7_init_28 : decode cX7_init 28 = .ok (.putfield 18, 3) := by decide +kernel
theorem dX7_init_31 : decode cX7_init 31 = .ok (.aload_n 0, 1) := by decide +kernel
theorem dX7_init_32 : decode cX7_init 32 = .ok (.sipush 150, 3) := by decide +kernel
theorem dX7_init_35 : decode cX7_init 35 = .ok (.newarray .int, 2) := by decide +kernel
theorem dX7_init_37 : decode cX7_init 37 = .ok (.putfield 21, 3) := by decide +kernel
theorem dX7_init_40 : decode cX7_init 40 = .ok (.return_, 1) := by decide +kernel
theorem dX7_read_0 : decode cX7_read 0 = .ok (.aload_n 0, 1) := by decide +kernel
theorem dX7_read_1 : decode cX7_read 1 = .ok (.aload_n 3, 1) := by decide +kernel
theorem dX7_read_2 : decode cX7_read 2 = .ok (.putfield 24, 3) := by decide +kernel
theorem dX7_read_5 : decode cX7_read 5 = .ok (.aload_n 0, 1) := by decide +kernel
theorem dX7_read_6 : decode cX7_read 6 = .ok (.aload_n 3, 1) := by decide +kernel
theorem dX7_read_7 : decode cX7_read 7 = .ok (.getfield 28, 3) := by decide +kernel
theorem dX7_read_10 : decode cX7_read 10 = .ok (.putfield 34, 3) := by decide +kernel
theorem dX7_read_13 : decode cX7_read 13 = .ok (.aload_n 0, 1) := by decide +kernel
theorem dX7_read_14 : decode cX7_read 14 = .ok (.aload_n 3, 1) := by decide +kernel
theorem dX7_read_15 : decode cX7_read 15 = .ok (.getfield 35, 3) := by decide +kernel
theorem dX7_read_18 : decode cX7_read 18 = .ok (.putfield 39, 3) := by decide +kernel
theorem dX7_read_21 : decode cX7_read 21 = .ok (.aload_n 0, 1) := by decide +kernel
theorem dX7_read_22 : decode cX7_read 22 = .ok (.getfield 24, 3) := by decide +kernel
theorem dX7_read_25 : decode cX7_read 25 = .ok (.invokevirtual 40, 3) := by decide +kernel
theorem dX7_read_28 : decode cX7_read 28 = .ok (.aload_n 0, 1) := by decide +kernel
theorem dX7_read_29 : decode cX7_read 29 = .ok (.getfield 34, 3) := by decide +kernel
theorem dX7_read_32 : decode cX7_read 32 = .ok (.aload_n 1, 1) := by decide +kernel
theorem dX7_read_33 : decode cX7_read 33 = .ok (.iload_n 2, 1) := by decide +kernel
theorem dX7_read_34 : decode cX7_read 34 = .ok (.invokevirtual 43, 3) := by decide +kernel
theorem dX7_read_37 : decode cX7_read 37 = .ok (.aload_n 0, 1) := by decide +kernel
theorem dX7_read_38 : decode cX7_read 38 = .ok (.iconst 0, 1) := by decide +kernel
theorem dX7_read_39 : decode cX7_read 39 = .ok (.putfield 49, 3) := by decide +kernel
theorem dX7_read_42 : decode cX7_read 42 = .ok (.aload_n 0, 1) := by decide +kernel
theorem dX7_read_43 : decode cX7_read 43 = .ok (.iconst 0, 1) := by decide +kernel
theorem dX7_read_44 : decode cX7_read 44 = .ok (.putfield 53, 3) := by decide +kernel
theorem dX7_read_47 : decode cX7_read 47 = .ok (.aload_n 0, 1) := by decide +kernel
theorem dX7_read_48 : decode cX7_read 48 = .ok (.iconst 0, 1) := by decide +kernel
theorem dX7_read_49 : decode cX7_read 49 = .ok (.putfield 56, 3) := by decide +kernel
theorem dX7_read_52 : decode cX7_read 52 = .ok (.aload_n 0, 1) := by decide +kernel
theorem dX7_read_53 : decode cX7_read 53 = .ok (.iconst 0, 1) := by decide +kernel
theorem dX7_read_54 : decode cX7_read 54 = .ok (.putfield 59, 3) := by decide +kernel
theorem dX7_read_57 : decode cX7_read 57 = .ok (.aload_n 0, 1) := by decide +kernel
theorem dX7_read_58 : decode cX7_read 58 = .ok (.invokevirtual 62, 3) := by decide +kernel
theorem dX7_read_61 : decode cX7_read 61 = .ok (.iconst 0, 1) := by decide +kernel
theorem dX7_read_62 : decode cX7_read 62 = .ok (.istore 4, 2) := by decide +kernel
theorem dX7_read_64 : decode cX7_read 64 = .ok (.iload 4, 2) := by decide +kernel
theorem dX7_read_66 : decode cX7_read 66 = .ok (.bipush 10, 2) := by decide +kernel
theorem dX7_read_68 : decode cX7_read 68 = .ok (.if_icmp .ge 20, 3) := by decide +kernel
theorem dX7_read_71 : decode cX7_read 71 = .ok (.aload_n 0, 1) := by decide +kernel
theorem dX7_read_72 : decode cX7_read 72 = .ok (.invokevirtual 65, 3) := by decide +kernel
theorem dX7_read_75 : decode cX7_read 75 = .ok (.ifCond .eq 13, 3) := by decide +kernel
theorem dX7_read_78 : decode cX7_read 78 = .ok (.aload_n 0, 1) := by decide +kernel
theorem dX7_read_79 : decode cX7_read 79 = .ok (.invokevirtual 62, 3) := by decide +kernel
theorem dX7_read_82 : decode cX7_read 82 = .ok (.iinc 4 1, 3) := by decide +kernel
theorem dX7_read_85 : decode cX7_read 85 = .ok (.goto (-21), 3) := by decide +kernel
theorem dX7_read_88 : decode cX7_read 88 = .ok (.aload_n 0, 1) := by decide +kernel
theorem dX7_read_89 : decode cX7_read 89 = .ok (.getfield 56, 3) := by decide +kernel
theorem dX7_read_92 : decode cX7_read 92 = .ok (.ifCond .ne 7, 3) := by decide +kernel
theorem dX7_read_95 : decode cX7_read 95 = .ok (.aload_n 0, 1) := by decide +kernel
theorem dX7_read_96 : decode cX7_read 96 = .ok (.invokevirtual 69, 3) := by decide +kernel
theorem dX7_read_99 : decode cX7_read 99 = .ok (.aload_n 0, 1) := by decide +kernel
theorem dX7_read_100 : decode cX7_read 100 = .ok (.aload_n 0, 1) := by decide +kernel
theorem dX7_read_101 : decode cX7_read 101 = .ok (.getfield 34, 3) := by decide +kernel
theorem dX7_read_104 : decode cX7_read 104 = .ok (.aload_n 0, 1) := by decide +kernel
theorem dX7_read_105 : decode cX7_read 105 = .ok (.getfield 59, 3) := by decide +kernel
theorem dX7_read_108 : decode cX7_read 108 = .ok (.invokevirtual 72, 3) := by decide +kernel
theorem dX7_read_111 : decode cX7_read 111 = .ok (.putfield 76, 3) := by decide +kernel
theorem dX7_read_114 : decode cX7_read 114 = .ok (.aload_n 0, 1) := by decide +kernel
theorem dX7_read_115 : decode cX7_read 115 = .ok (.getfield 56, 3) := by decide +kernel
theorem dX7_read_118 : decode cX7_read 118 = .ok (.ireturn, 1) := by decide +kernel
theorem dX7_readFunction_0 : decode cX7_readFunction 0 = .ok (.aload_n 0, 1) := by decide +kernel
theorem dX7_readFunction_1 : decode cX7_readFunction 1 = .ok (.invokevirtual 65, 3) := by decide +kernel
theorem dX7_readFunction_4 : decode cX7_readFunction 4 = .ok (.iconst 5, 1) := by decide +kernel
theorem dX7_readFunction_5 : decode cX7_readFunction 5 = .ok (.if_icmp .eq 9, 3) := by decide +kernel
theorem dX7_readFunction_8 : decode cX7_readFunction 8 = .ok (.aload_n 0, 1) := by decide +kernel
theorem dX7_readFunction_9 : decode cX7_readFunction 9 = .ok (.iconst 1, 1) := by decide +kernel
theorem dX7_readFunction_10 : decode cX7_readFunction 10 = .ok (.invokevirtual 79, 3) := by decide +kernel
theorem dX7_readFunction_13 : decode cX7_readFunction 13 = .ok (.return_, 1) := by decide +kernel
theorem dX7_readFunction_14 : decode cX7_readFunction 14 = .ok (.aload_n 0, 1) := by decide +kernel
theorem dX7_readFunction_15 : decode cX7_readFunction 15 = .ok (.getfield 24, 3) := by decide +kernel
theorem dX7_readFunction_18 : decode cX7_readFunction 18 = .ok (.getfield 83, 3) := by decide +kernel
theorem dX7_readFunction_21 : decode cX7_readFunction 21 = .ok (.istore_n 1, 1) := by decide +kernel
theorem dX7_readFunction_22 : decode cX7_readFunction 22 = .ok (.iload_n 1, 1) := by decide +kernel
theorem dX7_readFunction_23 : decode cX7_readFunction 23 = .ok (.bipush 10, 2) := by decide +kernel
theorem dX7_readFunction_25 : decode cX7_readFunction 25 = .ok (.if_icmp .lt 9, 3) := by decide +kernel
theorem dX7_readFunction_28 : decode cX7_readFunction 28 = .ok (.aload_n 0, 1) := by decide +kernel
theorem dX7_readFunction_29 : decode cX7_readFunction 29 = .ok (.iconst 3, 1) := by decide +kernel
theorem dX7_readFunction_30 : decode cX7_readFunction 30 = .ok (.invokevirtual 79, 3) := by decide +kernel
theorem dX7_readFunction_33 : decode cX7_readFunction 33 = .ok (.return_, 1) := by decide +kernel
theorem dX7_readFunction_34 : decode cX7_readFunction 34 = .ok (.aload_n 0, 1) := by decide +kernel
theorem dX7_readFunction_35 : decode cX7_readFunction 35 = .ok (.getfield 24, 3) := by decide +kernel
theorem dX7_readFunction_38 : decode cX7_readFunction 38 = .ok (.getfield 86, 3) := by decide +kernel
theorem dX7_readFunction_41 : decode cX7_readFunction 41 = .ok (.iload_n 1, 1) := by decide +kernel
theorem dX7_readFunction_42 : decode cX7_readFunction 42 = .ok (.aaload, 1) := by decide +kernel
theorem dX7_readFunction_43 : decode cX7_readFunction 43 = .ok (.astore_n 2, 1) := by decide +kernel
theorem dX7_readFunction_44 : decode cX7_readFunction 44 = .ok (.aload_n 2, 1) := by decide +kernel
theorem dX7_readFunction_45 : decode cX7_readFunction 45 = .ok (.aload_n 0, 1) := by decide +kernel
theorem dX7_readFunction_46 : decode cX7_readFunction 46 = .ok (.getfield 49, 3) := by decide +kernel
theorem dX7_readFunction_49 : decode cX7_readFunction 49 = .ok (.aload_n 0, 1) := by decide +kernel
theorem dX7_readFunction_50 : decode cX7_readFunction 50 = .ok (.getfield 24, 3) := by decide +kernel
theorem dX7_readFunction_53 : decode cX7_readFunction 53 = .ok (.getfield 90, 3) := by decide +kernel
theorem dX7_readFunction_56 : decode cX7_readFunction 56 = .ok (.aload_n 0, 1) := by decide +kernel
theorem dX7_readFunction_57 : decode cX7_readFunction 57 = .ok (.getfield 39, 3) := by decide +kernel
theorem dX7_readFunction_60 : decode cX7_readFunction 60 = .ok (.getfield 93, 3) := by decide +kernel
theorem dX7_readFunction_63 : decode cX7_readFunction 63 = .ok (.invokevirtual 98, 3) := by decide +kernel
theorem dX7_readFunction_66 : decode cX7_readFunction 66 = .ok (.aload_n 0, 1) := by decide +kernel
theorem dX7_readFunction_67 : decode cX7_readFunction 67 = .ok (.dup, 1) := by decide +kernel
theorem dX7_readFunction_68 : decode cX7_readFunction 68 = .ok (.getfield 49, 3) := by decide +kernel
theorem dX7_readFunction_71 : decode cX7_readFunction 71 = .ok (.iconst 1, 1) := by decide +kernel
theorem dX7_readFunction_72 : decode cX7_readFunction 72 = .ok (.iadd, 1) := by decide +kernel
theorem dX7_readFunction_73 : decode cX7_readFunction 73 = .ok (.putfield 49, 3) := by decide +kernel
theorem dX7_readFunction_76 : decode cX7_readFunction 76 = .ok (.aload_n 0, 1) := by decide +kernel
theorem dX7_readFunction_77 : decode cX7_readFunction 77 = .ok (.aload_n 2, 1) := by decide +kernel
theorem dX7_readFunction_78 : decode cX7_readFunction 78 = .ok (.invokevirtual 104, 3) := by decide +kernel
theorem dX7_readFunction_81 : decode cX7_readFunction 81 = .ok (.aload_n 0, 1) := by decide +kernel
theorem dX7_readFunction_82 : decode cX7_readFunction 82 = .ok (.bipush 40, 2) := by decide +kernel
theorem dX7_readFunction_84 : decode cX7_readFunction 84 = .ok (.invokevirtual 108, 3) := by decide +kernel
theorem dX7_readFunction_87 : decode cX7_readFunction 87 = .ok (.aload_n 0, 1) := by decide +kernel
theorem dX7_readFunction_88 : decode cX7_readFunction 88 = .ok (.aload_n 2, 1) := by decide +kernel
theorem dX7_readFunction_89 : decode cX7_readFunction 89 = .ok (.invokevirtual 111, 3) := by decide +kernel
theorem dX7_readFunction_92 : decode cX7_readFunction 92 = .ok (.aload_n 0, 1) := by decide +kernel
theorem dX7_readFunction_93 : decode cX7_readFunction 93 = .ok (.bipush 41, 2) := by decide +kernel
theorem dX7_readFunction_95 : decode cX7_readFunction 95 = .ok (.invokevirtual 108, 3) := by decide +kernel
theorem dX7_readFunction_98 : decode cX7_readFunction 98 = .ok (.aload_n 0, 1) := by decide +kernel
theorem dX7_readFunction_99 : decode cX7_readFunction 99 = .ok (.iconst 1, 1) := by decide +kernel
theorem dX7_readFunction_100 : decode cX7_readFunction 100 = .ok (.invokevirtual 114, 3) := by decide +kernel
theorem dX7_readFunction_103 : decode cX7_readFunction 103 = .ok (.aload_n 0, 1) := by decide +kernel
theorem dX7_readFunction_104 : decode cX7_readFunction 104 = .ok (.getfield 39, 3) := by decide +kernel
theorem dX7_readFunction_107 : decode cX7_readFunction 107 = .ok (.bipush 16, 2) := by decide +kernel
theorem dX7_readFunction_109 : decode cX7_readFunction 109 = .ok (.iconst 0, 1) := by decide +kernel
theorem dX7_readFunction_110 : decode cX7_readFunction 110 = .ok (.iconst 0, 1) := by decide +kernel
theorem dX7_readFunction_111 : decode cX7_readFunction 111 = .ok (.invokevirtual 117, 3) := by decide +kernel
theorem dX7_readFunction_114 : decode cX7_readFunction 114 = .ok (.pop, 1) := by decide +kernel
theorem dX7_readFunction_115 : decode cX7_readFunction 115 = .ok (.aload_n 2, 1) := by decide +kernel
theorem dX7_readFunction_116 : decode cX7_readFunction 116 = .ok (.aload_n 0, 1) := by decide +kernel
theorem dX7_readFunction_117 : decode cX7_readFunction 117 = .ok (.getfield 49, 3) := by decide +kernel
theorem dX7_readFunction_120 : decode cX7_readFunction 120 = .ok (.iconst 1, 1) := by decide +kernel
theorem dX7_readFunction_121 : decode cX7_readFunction 121 = .ok (.isub, 1) := by decide +kernel
theorem dX7_readFunction_122 : decode cX7_readFunction 122 = .ok (.putfield 121, 3) := by decide +kernel
theorem dX7_readFunction_125 : decode cX7_readFunction 125 = .ok (.aload_n 2, 1) := by decide +kernel
theorem dX7_readFunction_126 : decode cX7_readFunction 126 = .ok (.aload_n 0, 1) := by decide +kernel
theorem dX7_readFunction_127 : decode cX7_readFunction 127 = .ok (.getfield 24, 3) := by decide +kernel
theorem dX7_readFunction_130 : decode cX7_readFunction 130 = .ok (.getfield 90, 3) := by decide +kernel
theorem dX7_readFunction_133 : decode cX7_readFunction 133 = .ok (.aload_n 2, 1) := by decide +kernel
theorem dX7_readFunction_134 : decode cX7_readFunction 134 = .ok (.getfield 124, 3) := by decide +kernel
theorem dX7_readFunction_137 : decode cX7_readFunction 137 = .ok (.isub, 1) := by decide +kernel
theorem dX7_readFunction_138 : decode cX7_readFunction 138 = .ok (.putfield 127, 3) := by decide +kernel
theorem dX7_readFunction_141 : decode cX7_readFunction 141 = .ok (.aload_n 0, 1) := by decide +kernel
theorem dX7_readFunction_142 : decode cX7_readFunction 142 = .ok (.getfield 24, 3) := by decide +kernel
theorem dX7_readFunction_145 : decode cX7_readFunction 145 = .ok (.dup, 1) := by decide +kernel
theorem dX7_readFunction_146 : decode cX7_readFunction 146 = .ok (.getfield 83, 3) := by decide +kernel
theorem dX7_readFunction_149 : decode cX7_readFunction 149 = .ok (.iconst 1, 1) := by decide +kernel
theorem dX7_readFunction_150 : decode cX7_readFunction 150 = .ok (.iadd, 1) := by decide +kernel
theorem dX7_readFunction_151 : decode cX7_readFunction 151 = .ok (.putfield 83, 3) := by decide +kernel
theorem dX7_readFunction_154 : decode cX7_readFunction 154 = .ok (.return_, 1) := by decide +kernel
theorem dX7_kind_0 : decode cX7_kind 0 = .ok (.aload_n 0, 1) := by decide +kernel
theorem dX7_kind_1 : decode cX7_kind 1 = .ok (.getfield 49, 3) := by decide +kernel
theorem dX7_kind_4 : decode cX7_kind 4 = .ok (.ifCond .lt 36, 3) := by decide +kernel
theorem dX7_kind_7 : decode cX7_kind 7 = .ok (.aload_n 0, 1) := by decide +kernel
theorem dX7_kind_8 : decode cX7_kind 8 = .ok (.getfield 49, 3) := by decide +kernel
theorem dX7_kind_11 : decode cX7_kind 11 = .ok (.aload_n 0, 1) := by decide +kernel
theorem dX7_kind_12 : decode cX7_kind 12 = .ok (.getfield 34, 3) := by decide +kernel
theorem dX7_kind_15 : decode cX7_kind 15 = .ok (.getfield 138, 3) := by decide +kernel
theorem dX7_kind_18 : decode cX7_kind 18 = .ok (.if_icmp .ge 22, 3) := by decide +kernel
theorem dX7_kind_21 : decode cX7_kind 21 = .ok (.aload_n 0, 1) := by decide +kernel
theorem dX7_kind_22 : decode cX7_kind 22 = .ok (.getfield 49, 3) := by decide +kernel
theorem dX7_kind_25 : decode cX7_kind 25 = .ok (.aload_n 0, 1) := by decide +kernel
theorem dX7_kind_26 : decode cX7_kind 26 = .ok (.getfield 34, 3) := by decide +kernel
theorem dX7_kind_29 : decode cX7_kind 29 = .ok (.getfield 212, 3) := by decide +kernel
theorem dX7_kind_32 : decode cX7_kind 32 = .ok (.arraylength, 1) := by decide +kernel
theorem dX7_kind_33 : decode cX7_kind 33 = .ok (.if_icmp .ge 7, 3) := by decide +kernel
theorem dX7_kind_36 : decode cX7_kind 36 = .ok (.iconst 1, 1) := by decide +kernel
theorem dX7_kind_37 : decode cX7_kind 37 = .ok (.goto 4, 3) := by decide +kernel
theorem dX7_kind_40 : decode cX7_kind 40 = .ok (.iconst 0, 1) := by decide +kernel
theorem dX7_kind_41 : decode cX7_kind 41 = .ok (.istore_n 1, 1) := by decide +kernel
theorem dX7_kind_42 : decode cX7_kind 42 = .ok (.iload_n 1, 1) := by decide +kernel
theorem dX7_kind_43 : decode cX7_kind 43 = .ok (.ifCond .eq 18, 3) := by decide +kernel
theorem dX7_kind_46 : decode cX7_kind 46 = .ok (.aload_n 0, 1) := by decide +kernel
theorem dX7_kind_47 : decode cX7_kind 47 = .ok (.getfield 34, 3) := by decide +kernel
theorem dX7_kind_50 : decode cX7_kind 50 = .ok (.getfield 212, 3) := by decide +kernel
theorem dX7_kind_53 : decode cX7_kind 53 = .ok (.aload_n 0, 1) := by decide +kernel
theorem dX7_kind_54 : decode cX7_kind 54 = .ok (.getfield 49, 3) := by decide +kernel
theorem dX7_kind_57 : decode cX7_kind 57 = .ok (.iaload, 1) := by decide +kernel
theorem dX7_kind_58 : decode cX7_kind 58 = .ok (.goto 4, 3) := by decide +kernel
theorem dX7_kind_61 : decode cX7_kind 61 = .ok (.iconst 0, 1) := by decide +kernel
theorem dX7_kind_62 : decode cX7_kind 62 = .ok (.ireturn, 1) := by decide +kernel
theorem dX7_fail_0 : decode cX7_fail 0 = .ok (.aload_n 0, 1) := by decide +kernel
theorem dX7_fail_1 : decode cX7_fail 1 = .ok (.getfield 56, 3) := by decide +kernel
theorem dX7_fail_4 : decode cX7_fail 4 = .ok (.ifCond .ne 16, 3) := by decide +kernel
theorem dX7_fail_7 : decode cX7_fail 7 = .ok (.aload_n 0, 1) := by decide +kernel
theorem dX7_fail_8 : decode cX7_fail 8 = .ok (.iload_n 1, 1) := by decide +kernel
theorem dX7_fail_9 : decode cX7_fail 9 = .ok (.putfield 56, 3) := by decide +kernel
theorem dX7_fail_12 : decode cX7_fail 12 = .ok (.aload_n 0, 1) := by decide +kernel
theorem dX7_fail_13 : decode cX7_fail 13 = .ok (.aload_n 0, 1) := by decide +kernel
theorem dX7_fail_14 : decode cX7_fail 14 = .ok (.getfield 49, 3) := by decide +kernel
theorem dX7_fail_17 : decode cX7_fail 17 = .ok (.putfield 59, 3) := by decide +kernel
theorem dX7_fail_20 : decode cX7_fail 20 = .ok (.aload_n 0, 1) := by decide +kernel
theorem dX7_fail_21 : decode cX7_fail 21 = .ok (.aload_n 0, 1) := by decide +kernel
theorem dX7_fail_22 : decode cX7_fail 22 = .ok (.getfield 34, 3) := by decide +kernel
theorem dX7_fail_25 : decode cX7_fail 25 = .ok (.getfield 138, 3) := by decide +kernel
theorem dX7_fail_28 : decode cX7_fail 28 = .ok (.iconst 1, 1) := by decide +kernel
theorem dX7_fail_29 : decode cX7_fail 29 = .ok (.isub, 1) := by decide +kernel
theorem dX7_fail_30 : decode cX7_fail 30 = .ok (.putfield 49, 3) := by decide +kernel
theorem dX7_fail_33 : decode cX7_fail 33 = .ok (.return_, 1) := by decide +kernel
theorem dX8_init_0 : decode cX8_init 0 = .ok (.aload_n 0, 1) := by decide +kernel
theorem dX8_init_1 : decode cX8_init 1 = .ok (.invokespecial 3, 3) := by decide +kernel
theorem dX8_init_4 : decode cX8_init 4 = .ok (.aload_n 0, 1) := by decide +kernel
theorem dX8_init_5 : decode cX8_init 5 = .ok (.sipush 600, 3) := by decide +kernel
theorem dX8_init_8 : decode cX8_init 8 = .ok (.newarray .byte, 2) := by decide +kernel
theorem dX8_init_10 : decode cX8_init 10 = .ok (.putfield 9, 3) := by decide +kernel
theorem dX8_init_13 : decode cX8_init 13 = .ok (.aload_n 0, 1) := by decide +kernel
theorem dX8_init_14 : decode cX8_init 14 = .ok (.sipush 601, 3) := by decide +kernel
theorem dX8_init_17 : decode cX8_init 17 = .ok (.newarray .int, 2) := by decide +kernel
theorem dX8_init_19 : decode cX8_init 19 = .ok (.putfield 15, 3) := by decide +kernel
theorem dX8_init_22 : decode cX8_init 22 = .ok (.aload_n 0, 1) := by decide +kernel
theorem dX8_init_23 : decode cX8_init 23 = .ok (.sipush 601, 3) := by decide +kernel
theorem dX8_init_26 : decode cX8_init 26 = .ok (.newarray .int, 2) := by decide +kernel
theorem dX8_init_28 : decode cX8_init 28 = .ok (.putfield 19, 3) := by decide +kernel
theorem dX8_init_31 : decode cX8_init 31 = .ok (.aload_n 0, 1) := by decide +kernel
theorem dX8_init_32 : decode cX8_init 32 = .ok (.sipush 601, 3) := by decide +kernel
theorem dX8_init_35 : decode cX8_init 35 = .ok (.newarray .int, 2) := by decide +kernel
theorem dX8_init_37 : decode cX8_init 37 = .ok (.putfield 22, 3) := by decide +kernel
theorem dX8_init_40 : decode cX8_init 40 = .ok (.return_, 1) := by decide +kernel
theorem dX8_cut_0 : decode cX8_cut 0 = .ok (.aload_n 0, 1) := by decide +kernel
theorem dX8_cut_1 : decode cX8_cut 1 = .ok (.iconst 0, 1) := by decide +kernel
theorem dX8_cut_2 : decode cX8_cut 2 = .ok (.iload_n 2, 1) := by decide +kernel
theorem dX8_cut_3 : decode cX8_cut 3 = .ok (.aload_n 1, 1) := by decide +kernel
theorem dX8_cut_4 : decode cX8_cut 4 = .ok (.arraylength, 1) := by decide +kernel
theorem dX8_cut_5 : decode cX8_cut 5 = .ok (.aload_n 0, 1) := by decide +kernel
theorem dX8_cut_6 : decode cX8_cut 6 = .ok (.getfield 9, 3) := by decide +kernel
theorem dX8_cut_9 : decode cX8_cut 9 = .ok (.arraylength, 1) := by decide +kernel
theorem dX8_cut_10 : decode cX8_cut 10 = .ok (.invokestatic 25, 3) := by decide +kernel
theorem dX8_cut_13 : decode cX8_cut 13 = .ok (.invokestatic 25, 3) := by decide +kernel
theorem dX8_cut_16 : decode cX8_cut 16 = .ok (.invokestatic 31, 3) := by decide +kernel
theorem dX8_cut_19 : decode cX8_cut 19 = .ok (.putfield 34, 3) := by decide +kernel
theorem dX8_cut_22 : decode cX8_cut 22 = .ok (.aload_n 1, 1) := by decide +kernel
theorem dX8_cut_23 : decode cX8_cut 23 = .ok (.iconst 0, 1) := by decide +kernel
theorem dX8_cut_24 : decode cX8_cut 24 = .ok (.aload_n 0, 1) := by decide +kernel
theorem dX8_cut_25 : decode cX8_cut 25 = .ok (.getfield 9, 3) := by decide +kernel
theorem dX8_cut_28 : decode cX8_cut 28 = .ok (.iconst 0, 1) := by decide +kernel
theorem dX8_cut_29 : decode cX8_cut 29 = .ok (.aload_n 0, 1) := by decide +kernel
theorem dX8_cut_30 : decode cX8_cut 30 = .ok (.getfield 34, 3) := by decide +kernel
theorem dX8_cut_33 : decode cX8_cut 33 = .ok (.invokestatic 38, 3) := by decide +kernel
theorem dX8_cut_36 : decode cX8_cut 36 = .ok (.aload_n 0, 1) := by decide +kernel
theorem dX8_cut_37 : decode cX8_cut 37 = .ok (.iconst 0, 1) := by decide +kernel
theorem dX8_cut_38 : decode cX8_cut 38 = .ok (.putfield 44, 3) := by decide +kernel
theorem dX8_cut_41 : decode cX8_cut 41 = .ok (.iconst 0, 1) := by decide +kernel
theorem dX8_cut_42 : decode cX8_cut 42 = .ok (.istore_n 3, 1) := by decide +kernel
theorem dX8_cut_43 : decode cX8_cut 43 = .ok (.iload_n 3, 1) := by decide +kernel
theorem dX8_cut_44 : decode cX8_cut 44 = .ok (.aload_n 0, 1) := by decide +kernel
theorem dX8_cut_45 : decode cX8_cut 45 = .ok (.getfield 34, 3) := by decide +kernel
theorem dX8_cut_48 : decode cX8_cut 48 = .ok (.if_icmp .ge 75, 3) := by decide +kernel
theorem dX8_cut_51 : decode cX8_cut 51 = .ok (.aload_n 0, 1) := by decide +kernel
theorem dX8_cut_52 : decode cX8_cut 52 = .ok (.getfield 9, 3) := by decide +kernel
theorem dX8_cut_55 : decode cX8_cut 55 = .ok (.iload_n 3, 1) := by decide +kernel
theorem dX8_cut_56 : decode cX8_cut 56 = .ok (.baload, 1) := by decide +kernel
theorem dX8_cut_57 : decode cX8_cut 57 = .ok (.bipush 32, 2) := by decide +kernel
theorem dX8_cut_59 : decode cX8_cut 59 = .ok (.if_icmp .eq 58, 3) := by decide +kernel
theorem dX8_cut_62 : decode cX8_cut 62 = .ok (.aload_n 0, 1) := by decide +kernel
theorem dX8_cut_63 : decode cX8_cut 63 = .ok (.getfield 9, 3) := by decide +kernel
theorem dX8_cut_66 : decode cX8_cut 66 = .ok (.iload_n 3, 1) := by decide +kernel
theorem dX8_cut_67 : decode cX8_cut 67 = .ok (.baload, 1) := by decide +kernel
theorem dX8_cut_68 : decode cX8_cut 68 = .ok (.bipush 10, 2) := by decide +kernel
theorem dX8_cut_70 : decode cX8_cut 70 = .ok (.if_icmp .ne 6, 3) := by decide +kernel
theorem dX8_cut_73 : decode cX8_cut 73 = .ok (.goto 44, 3) := by decide +kernel
theorem dX8_cut_76 : decode cX8_cut 76 = .ok (.aload_n 0, 1) := by decide +kernel
theorem dX8_cut_77 : decode cX8_cut 77 = .ok (.iload_n 3, 1) := by decide +kernel
theorem dX8_cut_78 : decode cX8_cut 78 = .ok (.invokevirtual 47, 3) := by decide +kernel
theorem dX8_cut_81 : decode cX8_cut 81 = .ok (.istore 4, 2) := by decide +kernel
theorem dX8_cut_83 : decode cX8_cut 83 = .ok (.iload 4, 2) := by decide +kernel
theorem dX8_cut_85 : decode cX8_cut 85 = .ok (.ifCond .ne 11, 3) := by decide +kernel
theorem dX8_cut_88 : decode cX8_cut 88 = .ok (.aload_n 0, 1) := by decide +kernel
theorem dX8_cut_89 : decode cX8_cut 89 = .ok (.iconst 1, 1) := by decide +kernel
theorem dX8_cut_90 : decode cX8_cut 90 = .ok (.iload_n 3, 1) := by decide +kernel
theorem dX8_cut_91 : decode cX8_cut 91 = .ok (.iconst 0, 1) := by decide +kernel
theorem dX8_cut_92 : decode cX8_cut 92 = .ok (.invokevirtual 51, 3) := by decide +kernel
theorem dX8_cut_95 : decode cX8_cut 95 = .ok (.return_, 1) := by decide +kernel
theorem dX8_cut_96 : decode cX8_cut 96 = .ok (.aload_n 0, 1) := by decide +kernel
theorem dX8_cut_97 : decode cX8_cut 97 = .ok (.aload_n 0, 1) := by decide +kernel
theorem dX8_cut_98 : decode cX8_cut 98 = .ok (.iload_n 3, 1) := by decide +kernel
theorem dX8_cut_99 : decode cX8_cut 99 = .ok (.iload 4, 2) := by decide +kernel
theorem dX8_cut_101 : decode cX8_cut 101 = .ok (.invokevirtual 55, 3) := by decide +kernel
theorem dX8_cut_104 : decode cX8_cut 104 = .ok (.iload_n 3, 1) := by decide +kernel
theorem dX8_cut_105 : decode cX8_cut 105 = .ok (.iload 4, 2) := by decide +kernel
theorem dX8_cut_107 : decode cX8_cut 107 = .ok (.invokevirtual 51, 3) := by decide +kernel
theorem dX8_cut_110 : decode cX8_cut 110 = .ok (.iload_n 3, 1) := by decide +kernel
theorem dX8_cut_111 : decode cX8_cut 111 = .ok (.iload 4, 2) := by decide +kernel
theorem dX8_cut_113 : decode cX8_cut 113 = .ok (.iconst 1, 1) := by decide +kernel
theorem dX8_cut_114 : decode cX8_cut 114 = .ok (.isub, 1) := by decide +kernel
theorem dX8_cut_115 : decode cX8_cut 115 = .ok (.iadd, 1) := by decide +kernel
theorem dX8_cut_116 : decode cX8_cut 116 = .ok (.istore_n 3, 1) := by decide +kernel
theorem dX8_cut_117 : decode cX8_cut 117 = .ok (.iinc 3 1, 3) := by decide +kernel
theorem dX8_cut_120 : decode cX8_cut 120 = .ok (.goto (-77), 3) := by decide +kernel
theorem dX8_cut_123 : decode cX8_cut 123 = .ok (.aload_n 0, 1) := by decide +kernel
theorem dX8_cut_124 : decode cX8_cut 124 = .ok (.iconst 0, 1) := by decide +kernel
theorem dX8_cut_125 : decode cX8_cut 125 = .ok (.aload_n 0, 1) := by decide +kernel
theorem dX8_cut_126 : decode cX8_cut 126 = .ok (.getfield 34, 3) := by decide +kernel
theorem dX8_cut_129 : decode cX8_cut 129 = .ok (.iconst 0, 1) := by decide +kernel
theorem dX8_cut_130 : decode cX8_cut 130 = .ok (.invokevirtual 51, 3) := by decide +kernel
theorem dX8_cut_133 : decode cX8_cut 133 = .ok (.return_, 1) := by decide +kernel
theorem dX8_placeOf_0 : decode cX8_placeOf 0 = .ok (.aload_n 0, 1) := by decide +kernel
theorem dX8_placeOf_1 : decode cX8_placeOf 1 = .ok (.iload_n 1, 1) := by decide +kernel
theorem dX8_placeOf_2 : decode cX8_placeOf 2 = .ok (.invokevirtual 58, 3) := by decide +kernel
theorem dX8_placeOf_5 : decode cX8_placeOf 5 = .ok (.ifCond .eq 12, 3) := by decide +kernel
theorem dX8_placeOf_8 : decode cX8_placeOf 8 = .ok (.aload_n 0, 1) := by decide +kernel
theorem dX8_placeOf_9 : decode cX8_placeOf 9 = .ok (.getfield 19, 3) := by decide +kernel
theorem dX8_placeOf_12 : decode cX8_placeOf 12 = .ok (.iload_n 1, 1) := by decide +kernel
theorem dX8_placeOf_13 : decode cX8_placeOf 13 = .ok (.iaload, 1) := by decide +kernel
theorem dX8_placeOf_14 : decode cX8_placeOf 14 = .ok (.goto 7, 3) := by decide +kernel
theorem dX8_placeOf_17 : decode cX8_placeOf 17 = .ok (.aload_n 0, 1) := by decide +kernel
theorem dX8_placeOf_18 : decode cX8_placeOf 18 = .ok (.getfield 34, 3) := by decide +kernel
theorem dX8_placeOf_21 : decode cX8_placeOf 21 = .ok (.ireturn, 1) := by decide +kernel
theorem dX8_has_0 : decode cX8_has 0 = .ok (.iload_n 1, 1) := by decide +kernel
theorem dX8_has_1 : decode cX8_has 1 = .ok (.ifCond .lt 24, 3) := by decide +kernel
theorem dX8_has_4 : decode cX8_has 4 = .ok (.iload_n 1, 1) := by decide +kernel
theorem dX8_has_5 : decode cX8_has 5 = .ok (.aload_n 0, 1) := by decide +kernel
theorem dX8_has_6 : decode cX8_has 6 = .ok (.getfield 44, 3) := by decide +kernel
theorem dX8_has_9 : decode cX8_has 9 = .ok (.if_icmp .ge 16, 3) := by decide +kernel
theorem dX8_has_12 : decode cX8_has 12 = .ok (.iload_n 1, 1) := by decide +kernel
theorem dX8_has_13 : decode cX8_has 13 = .ok (.aload_n 0, 1) := by decide +kernel
theorem dX8_has_14 : decode cX8_has 14 = .ok (.getfield 15, 3) := by decide +kernel
theorem dX8_has_17 : decode cX8_has 17 = .ok (.arraylength, 1) := by decide +kernel
theorem dX8_has_18 : decode cX8_has 18 = .ok (.if_icmp .ge 7, 3) := by decide +kernel
theorem dX8_has_21 : decode cX8_has 21 = .ok (.iconst 1, 1) := by decide +kernel
theorem dX8_has_22 : decode cX8_has 22 = .ok (.goto 4, 3) := by decide +kernel
theorem dX8_has_25 : decode cX8_has 25 = .ok (.iconst 0, 1) := by decide +kernel
theorem dX8_has_26 : decode cX8_has 26 = .ok (.ireturn, 1) := by decide +kernel
theorem dX8_add_0 : decode cX8_add 0 = .ok (.aload_n 0, 1) := by decide +kernel
theorem dX8_add_1 : decode cX8_add 1 = .ok (.getfield 44, 3) := by decide +kernel
theorem dX8_add_4 : decode cX8_add 4 = .ok (.aload_n 0, 1) := by decide +kernel
theorem dX8_add_5 : decode cX8_add 5 = .ok (.getfield 15, 3) := by decide +kernel
theorem dX8_add_8 : decode cX8_add 8 = .ok (.arraylength, 1) := by decide +kernel
theorem dX8_add_9 : decode cX8_add 9 = .ok (.if_icmp .ge 43, 3) := by decide +kernel
theorem dX8_add_12 : decode cX8_add 12 = .ok (.aload_n 0, 1) := by decide +kernel
theorem dX8_add_13 : decode cX8_add 13 = .ok (.getfield 15, 3) := by decide +kernel
theorem dX8_add_16 : decode cX8_add 16 = .ok (.aload_n 0, 1) := by decide +kernel
theorem dX8_add_17 : decode cX8_add 17 = .ok (.getfield 44, 3) := by decide +kernel
theorem dX8_add_20 : decode cX8_add 20 = .ok (.iload_n 1, 1) := by decide +kernel
theorem dX8_add_21 : decode cX8_add 21 = .ok (.iastore, 1) := by decide +kernel
theorem dX8_add_22 : decode cX8_add 22 = .ok (.aload_n 0, 1) := by decide +kernel
theorem dX8_add_23 : decode cX8_add 23 = .ok (.getfield 19, 3) := by decide +kernel
theorem dX8_add_26 : decode cX8_add 26 = .ok (.aload_n 0, 1) := by decide +kernel
theorem dX8_add_27 : decode cX8_add 27 = .ok (.getfield 44, 3) := by decide +kernel
theorem dX8_add_30 : decode cX8_add 30 = .ok (.iload_n 2, 1) := by decide +kernel
theorem dX8_add_31 : decode cX8_add 31 = .ok (.iastore, 1) := by decide +kernel
theorem dX8_add_32 : decode cX8_add 32 = .ok (.aload_n 0, 1) := by decide +kernel
theorem dX8_add_33 : decode cX8_add 33 = .ok (.getfield 22, 3) := by decide +kernel
theorem dX8_add_36 : decode cX8_add 36 = .ok (.aload_n 0, 1) := by decide +kernel
theorem dX8_add_37 : decode cX8_add 37 = .ok (.getfield 44, 3) := by decide +kernel
theorem dX8_add_40 : decode cX8_add 40 = .ok (.iload_n 3, 1) := by decide +kernel
theorem dX8_add_41 : decode cX8_add 41 = .ok (.iastore, 1) := by decide +kernel
theorem dX8_add_42 : decode cX8_add 42 = .ok (.aload_n 0, 1) := by decide +kernel
theorem dX8_add_43 : decode cX8_add 43 = .ok (.dup, 1) := by decide +kernel
theorem dX8_add_44 : decode cX8_add 44 = .ok (.getfield 44, 3) := by decide +kernel
theorem dX8_add_47 : decode cX8_add 47 = .ok (.iconst 1, 1) := by decide +kernel
theorem dX8_add_48 : decode cX8_add 48 = .ok (.iadd, 1) := by decide +kernel
theorem dX8_add_49 : decode cX8_add 49 = .ok (.putfield 44, 3) := by decide +kernel
theorem dX8_add_52 : decode cX8_add 52 = .ok (.return_, 1) := by decide +kernel
theorem dX9_init_0 : decode cX9_init 0 = .ok (.aload_n 0, 1) := by decide +kernel
theorem dX9_init_1 : decode cX9_init 1 = .ok (.invokespecial 3, 3) := by decide +kernel
theorem dX9_init_4 : decode cX9_init 4 = .ok (.aload_n 0, 1) := by decide +kernel
theorem dX9_init_5 : decode cX9_init 5 = .ok (.bipush 12, 2) := by decide +kernel
theorem dX9_init_7 : decode cX9_init 7 = .ok (.newarray .long, 2) := by decide +kernel
theorem dX9_init_9 : decode cX9_init 9 = .ok (.putfield 11, 3) := by decide +kernel
theorem dX9_init_12 : decode cX9_init 12 = .ok (.aload_n 0, 1) := by decide +kernel
theorem dX9_init_13 : decode cX9_init 13 = .ok (.bipush 12, 2) := by decide +kernel
theorem dX9_init_15 : decode cX9_init 15 = .ok (.newarray .int, 2) := by decide +kernel
theorem dX9_init_17 : decode cX9_init 17 = .ok (.putfield 15, 3) := by decide +kernel
theorem dX9_init_20 : decode cX9_init 20 = .ok (.aload_n 0, 1) := by decide +kernel
theorem dX9_init_21 : decode cX9_init 21 = .ok (.iconst (-1), 1) := by decide +kernel
theorem dX9_init_22 : decode cX9_init 22 = .ok (.putfield 19, 3) := by decide +kernel
theorem dX9_init_25 : decode cX9_init 25 = .ok (.return_, 1) := by decide +kernel
theorem dX9_shownLines_0 : decode cX9_shownLines 0 = .ok (.aload_n 0, 1) := by decide +kernel
theorem dX9_shownLines_1 : decode cX9_shownLines 1 = .ok (.iconst 1, 1) := by decide +kernel
theorem dX9_shownLines_2 : decode cX9_shownLines 2 = .ok (.aload_n 0, 1) := by decide +kernel
theorem dX9_shownLines_3 : decode cX9_shownLines 3 = .ok (.getfield 23, 3) := by decide +kernel
theorem dX9_shownLines_6 : decode cX9_shownLines 6 = .ok (.ishl, 1) := by decide +kernel
theorem dX9_shownLines_7 : decode cX9_shownLines 7 = .ok (.iconst 1, 1) := by decide +kernel
theorem dX9_shownLines_8 : decode cX9_shownLines 8 = .ok (.isub, 1) := by decide +kernel
theorem dX9_shownLines_9 : decode cX9_shownLines 9 = .ok (.invokevirtual 33, 3) := by decide +kernel
theorem dX9_shownLines_12 : decode cX9_shownLines 12 = .ok (.lreturn, 1) := by decide +kernel
theorem dX9_chooseFewest_0 : decode cX9_chooseFewest 0 = .ok (.aload_n 0, 1) := by decide +kernel
theorem dX9_chooseFewest_1 : decode cX9_chooseFewest 1 = .ok (.getfield 19, 3) := by decide +kernel
theorem dX9_chooseFewest_4 : decode cX9_chooseFewest 4 = .ok (.aload_n 0, 1) := by decide +kernel
theorem dX9_chooseFewest_5 : decode cX9_chooseFewest 5 = .ok (.getfield 23, 3) := by decide +kernel
theorem dX9_chooseFewest_8 : decode cX9_chooseFewest 8 = .ok (.if_icmp .eq 19, 3) := by decide +kernel
theorem dX9_chooseFewest_11 : decode cX9_chooseFewest 11 = .ok (.aload_n 0, 1) := by decide +kernel
theorem dX9_chooseFewest_12 : decode cX9_chooseFewest 12 = .ok (.aload_n 0, 1) := by decide +kernel
theorem dX9_chooseFewest_13 : decode cX9_chooseFewest 13 = .ok (.invokevirtual 37, 3) := by decide +kernel
theorem dX9_chooseFewest_16 : decode cX9_chooseFewest 16 = .ok (.invokevirtual 41, 3) := by decide +kernel
theorem dX9_chooseFewest_19 : decode cX9_chooseFewest 19 = .ok (.aload_n 0, 1) := by decide +kernel
theorem dX9_chooseFewest_20 : decode cX9_chooseFewest 20 = .ok (.aload_n 0, 1) := by decide +kernel
theorem dX9_chooseFewest_21 : decode cX9_chooseFewest 21 = .ok (.getfield 23, 3) := by decide +kernel
theorem dX9_chooseFewest_24 : decode cX9_chooseFewest 24 = .ok (.putfield 19, 3) := by decide +kernel
theorem dX9_chooseFewest_27 : decode cX9_chooseFewest 27 = .ok (.aload_n 0, 1) := by decide +kernel
theorem dX9_chooseFewest_28 : decode cX9_chooseFewest 28 = .ok (.getfield 26, 3) := by decide +kernel
theorem dX9_chooseFewest_31 : decode cX9_chooseFewest 31 = .ok (.ireturn, 1) := by decide +kernel
theorem dX9_chosenAt_0 : decode cX9_chosenAt 0 = .ok (.iload_n 1, 1) := by decide +kernel
theorem dX9_chosenAt_1 : decode cX9_chosenAt 1 = .ok (.ifCond .lt 29, 3) := by decide +kernel
theorem dX9_chosenAt_4 : decode cX9_chosenAt 4 = .ok (.iload_n 1, 1) := by decide +kernel
theorem dX9_chosenAt_5 : decode cX9_chosenAt 5 = .ok (.aload_n 0, 1) := by decide +kernel
theorem dX9_chosenAt_6 : decode cX9_chosenAt 6 = .ok (.getfield 26, 3) := by decide +kernel
theorem dX9_chosenAt_9 : decode cX9_chosenAt 9 = .ok (.if_icmp .ge 21, 3) := by decide +kernel
theorem dX9_chosenAt_12 : decode cX9_chosenAt 12 = .ok (.iload_n 1, 1) := by decide +kernel
theorem dX9_chosenAt_13 : decode cX9_chosenAt 13 = .ok (.aload_n 0, 1) := by decide +kernel
theorem dX9_chosenAt_14 : decode cX9_chosenAt 14 = .ok (.getfield 15, 3) := by decide +kernel
theorem dX9_chosenAt_17 : decode cX9_chosenAt 17 = .ok (.arraylength, 1) := by decide +kernel
theorem dX9_chosenAt_18 : decode cX9_chosenAt 18 = .ok (.if_icmp .ge 12, 3) := by decide +kernel
theorem dX9_chosenAt_21 : decode cX9_chosenAt 21 = .ok (.aload_n 0, 1) := by decide +kernel
theorem dX9_chosenAt_22 : decode cX9_chosenAt 22 = .ok (.getfield 15, 3) := by decide +kernel
theorem dX9_chosenAt_25 : decode cX9_chosenAt 25 = .ok (.iload_n 1, 1) := by decide +kernel
theorem dX9_chosenAt_26 : decode cX9_chosenAt 26 = .ok (.iaload, 1) := by decide +kernel
theorem dX9_chosenAt_27 : decode cX9_chosenAt 27 = .ok (.goto 4, 3) := by decide +kernel
theorem dX9_chosenAt_30 : decode cX9_chosenAt 30 = .ok (.iconst (-1), 1) := by decide +kernel
theorem dX9_chosenAt_31 : decode cX9_chosenAt 31 = .ok (.ireturn, 1) := by decide +kernel
theorem dX9_fewestSet_0 : decode cX9_fewestSet 0 = .ok (.iconst 1, 1) := by decide +kernel
theorem dX9_fewestSet_1 : decode cX9_fewestSet 1 = .ok (.aload_n 0, 1) := by decide +kernel
theorem dX9_fewestSet_2 : decode cX9_fewestSet 2 = .ok (.getfield 23, 3) := by decide +kernel
theorem dX9_fewestSet_5 : decode cX9_fewestSet 5 = .ok (.ishl, 1) := by decide +kernel
theorem dX9_fewestSet_6 : decode cX9_fewestSet 6 = .ok (.iconst 1, 1) := by decide +kernel
theorem dX9_fewestSet_7 : decode cX9_fewestSet 7 = .ok (.isub, 1) := by decide +kernel
theorem dX9_fewestSet_8 : decode cX9_fewestSet 8 = .ok (.istore_n 1, 1) := by decide +kernel
theorem dX9_fewestSet_9 : decode cX9_fewestSet 9 = .ok (.aload_n 0, 1) := by decide +kernel
theorem dX9_fewestSet_10 : decode cX9_fewestSet 10 = .ok (.iload_n 1, 1) := by decide +kernel
theorem dX9_fewestSet_11 : decode cX9_fewestSet 11 = .ok (.invokevirtual 33, 3) := by decide +kernel
theorem dX9_fewestSet_14 : decode cX9_fewestSet 14 = .ok (.lstore_n 2, 1) := by decide +kernel
theorem dX9_fewestSet_15 : decode cX9_fewestSet 15 = .ok (.iload_n 1, 1) := by decide +kernel
theorem dX9_fewestSet_16 : decode cX9_fewestSet 16 = .ok (.iconst 1, 1) := by decide +kernel
theorem dX9_fewestSet_17 : decode cX9_fewestSet 17 = .ok (.isub, 1) := by decide +kernel
theorem dX9_fewestSet_18 : decode cX9_fewestSet 18 = .ok (.istore 4, 2) := by decide +kernel
theorem dX9_fewestSet_20 : decode cX9_fewestSet 20 = .ok (.iload 4, 2) := by decide +kernel
theorem dX9_fewestSet_22 : decode cX9_fewestSet 22 = .ok (.ifCond .lt 35, 3) := by decide +kernel
theorem dX9_fewestSet_25 : decode cX9_fewestSet 25 = .ok (.iload 4, 2) := by decide +kernel
theorem dX9_fewestSet_27 : decode cX9_fewestSet 27 = .ok (.invokestatic 45, 3) := by decide +kernel
theorem dX9_fewestSet_30 : decode cX9_fewestSet 30 = .ok (.iload_n 1, 1) := by decide +kernel
theorem dX9_fewestSet_31 : decode cX9_fewestSet 31 = .ok (.invokestatic 45, 3) := by decide +kernel
theorem dX9_fewestSet_34 : decode cX9_fewestSet 34 = .ok (.if_icmp .ge 17, 3) := by decide +kernel
theorem dX9_fewestSet_37 : decode cX9_fewestSet 37 = .ok (.aload_n 0, 1) := by decide +kernel
theorem dX9_fewestSet_38 : decode cX9_fewestSet 38 = .ok (.iload 4, 2) := by decide +kernel
theorem dX9_fewestSet_40 : decode cX9_fewestSet 40 = .ok (.invokevirtual 33, 3) := by decide +kernel
theorem dX9_fewestSet_43 : decode cX9_fewestSet 43 = .ok (.lload_n 2, 1) := by decide +kernel
theorem dX9_fewestSet_44 : decode cX9_fewestSet 44 = .ok (.lcmp, 1) := by decide +kernel
theorem dX9_fewestSet_45 : decode cX9_fewestSet 45 = .ok (.ifCond .ne 6, 3) := by decide +kernel
theorem dX9_fewestSet_48 : decode cX9_fewestSet 48 = .ok (.iload 4, 2) := by decide +kernel
theorem dX9_fewestSet_50 : decode cX9_fewestSet 50 = .ok (.istore_n 1, 1) := by decide +kernel
theorem dX9_fewestSet_51 : decode cX9_fewestSet 51 = .ok (.iinc 4 (-1), 3) := by decide +kernel
theorem dX9_fewestSet_54 : decode cX9_fewestSet 54 = .ok (.goto (-34), 3) := by decide +kernel
theorem dX9_fewestSet_57 : decode cX9_fewestSet 57 = .ok (.iload_n 1, 1) := by decide +kernel
theorem dX9_fewestSet_58 : decode cX9_fewestSet 58 = .ok (.ireturn, 1) := by decide +kernel
theorem dX9_choose_0 : decode cX9_choose 0 = .ok (.aload_n 0, 1) := by decide +kernel
theorem dX9_choose_1 : decode cX9_choose 1 = .ok (.iconst 0, 1) := by decide +kernel
theorem dX9_choose_2 : decode cX9_choose 2 = .ok (.putfield 26, 3) := by decide +kernel
theorem dX9_choose_5 : decode cX9_choose 5 = .ok (.iconst 0, 1) := by decide +kernel
theorem dX9_choose_6 : decode cX9_choose 6 = .ok (.istore_n 2, 1) := by decide +kernel
theorem dX9_choose_7 : decode cX9_choose 7 = .ok (.iload_n 2, 1) := by decide +kernel
theorem dX9_choose_8 : decode cX9_choose 8 = .ok (.aload_n 0, 1) := by decide +kernel
theorem dX9_choose_9 : decode cX9_choose 9 = .ok (.getfield 23, 3) := by decide +kernel
theorem dX9_choose_12 : decode cX9_choose 12 = .ok (.if_icmp .ge 47, 3) := by decide +kernel
theorem dX9_choose_15 : decode cX9_choose 15 = .ok (.iload_n 2, 1) := by decide +kernel
theorem dX9_choose_16 : decode cX9_choose 16 = .ok (.aload_n 0, 1) := by decide +kernel
theorem dX9_choose_17 : decode cX9_choose 17 = .ok (.getfield 15, 3) := by decide +kernel
theorem dX9_choose_20 : decode cX9_choose 20 = .ok (.arraylength, 1) := by decide +kernel
theorem dX9_choose_21 : decode cX9_choose 21 = .ok (.if_icmp .ge 38, 3) := by decide +kernel
theorem dX9_choose_24 : decode cX9_choose 24 = .ok (.aload_n 0, 1) := by decide +kernel
theorem dX9_choose_25 : decode cX9_choose 25 = .ok (.iload_n 1, 1) := by decide +kernel
theorem dX9_choose_26 : decode cX9_choose 26 = .ok (.iload_n 2, 1) := by decide +kernel
theorem dX9_choose_27 : decode cX9_choose 27 = .ok (.invokevirtual 51, 3) := by decide +kernel
theorem dX9_choose_30 : decode cX9_choose 30 = .ok (.ifCond .eq 23, 3) := by decide +kernel
theorem dX9_choose_33 : decode cX9_choose 33 = .ok (.aload_n 0, 1) := by decide +kernel
theorem dX9_choose_34 : decode cX9_choose 34 = .ok (.getfield 15, 3) := by decide +kernel
theorem dX9_choose_37 : decode cX9_choose 37 = .ok (.aload_n 0, 1) := by decide +kernel
theorem dX9_choose_38 : decode cX9_choose 38 = .ok (.getfield 26, 3) := by decide +kernel
theorem dX9_choose_41 : decode cX9_choose 41 = .ok (.iload_n 2, 1) := by decide +kernel
theorem dX9_choose_42 : decode cX9_choose 42 = .ok (.iastore, 1) := by decide +kernel
theorem dX9_choose_43 : decode cX9_choose 43 = .ok (.aload_n 0, 1) := by decide +kernel
theorem dX9_choose_44 : decode cX9_choose 44 = .ok (.dup, 1) := by decide +kernel
theorem dX9_choose_45 : decode cX9_choose 45 = .ok (.getfield 26, 3) := by decide +kernel
theorem dX9_choose_48 : decode cX9_choose 48 = .ok (.iconst 1, 1) := by decide +kernel
theorem dX9_choose_49 : decode cX9_choose 49 = .ok (.iadd, 1) := by decide +kernel
theorem dX9_choose_50 : decode cX9_choose 50 = .ok (.putfield 26, 3) := by decide +kernel
theorem dX9_choose_53 : decode cX9_choose 53 = .ok (.iinc 2 1, 3) := by decide +kernel
theorem dX9_choose_56 : decode cX9_choose 56 = .ok (.goto (-49), 3) := by decide +kernel
theorem dX9_choose_59 : decode cX9_choose 59 = .ok (.return_, 1) := by decide +kernel
theorem dX9_linesOf_0 : decode cX9_linesOf 0 = .ok (.lconst 0, 1) := by decide +kernel
theorem dX9_linesOf_1 : decode cX9_linesOf 1 = .ok (.lstore_n 2, 1) := by decide +kernel
theorem dX9_linesOf_2 : decode cX9_linesOf 2 = .ok (.iconst 0, 1) := by decide +kernel
theorem dX9_linesOf_3 : decode cX9_linesOf 3 = .ok (.istore 4, 2) := by decide +kernel
theorem dX9_linesOf_5 : decode cX9_linesOf 5 = .ok (.iload 4, 2) := by decide +kernel
theorem dX9_linesOf_7 : decode cX9_linesOf 7 = .ok (.aload_n 0, 1) := by decide +kernel
theorem dX9_linesOf_8 : decode cX9_linesOf 8 = .ok (.getfield 23, 3) := by decide +kernel
theorem dX9_linesOf_11 : decode cX9_linesOf 11 = .ok (.if_icmp .ge 39, 3) := by decide +kernel
theorem dX9_linesOf_14 : decode cX9_linesOf 14 = .ok (.iload 4, 2) := by decide +kernel
theorem dX9_linesOf_16 : decode cX9_linesOf 16 = .ok (.aload_n 0, 1) := by decide +kernel
theorem dX9_linesOf_17 : decode cX9_linesOf 17 = .ok (.getfield 11, 3) := by decide +kernel
theorem dX9_linesOf_20 : decode cX9_linesOf 20 = .ok (.arraylength, 1) := by decide +kernel
theorem dX9_linesOf_21 : decode cX9_linesOf 21 = .ok (.if_icmp .ge 29, 3) := by decide +kernel
theorem dX9_linesOf_24 : decode cX9_linesOf 24 = .ok (.aload_n 0, 1) := by decide +kernel
theorem dX9_linesOf_25 : decode cX9_linesOf 25 = .ok (.iload_n 1, 1) := by decide +kernel
theorem dX9_linesOf_26 : decode cX9_linesOf 26 = .ok (.iload 4, 2) := by decide +kernel
theorem dX9_linesOf_28 : decode cX9_linesOf 28 = .ok (.invokevirtual 51, 3) := by decide +kernel
theorem dX9_linesOf_31 : decode cX9_linesOf 31 = .ok (.ifCond .eq 13, 3) := by decide +kernel
theorem dX9_linesOf_34 : decode cX9_linesOf 34 = .ok (.lload_n 2, 1) := by decide +kernel
theorem dX9_linesOf_35 : decode cX9_linesOf 35 = .ok (.aload_n 0, 1) := by decide +kernel
theorem dX9_linesOf_36 : decode cX9_linesOf 36 = .ok (.getfield 11, 3) := by decide +kernel
theorem dX9_linesOf_39 : decode cX9_linesOf 39 = .ok (.iload 4, 2) := by decide +kernel
theorem dX9_linesOf_41 : decode cX9_linesOf 41 = .ok (.laload, 1) := by decide +kernel
theorem dX9_linesOf_42 : decode cX9_linesOf 42 = .ok (.lor, 1) := by decide +kernel
theorem dX9_linesOf_43 : decode cX9_linesOf 43 = .ok (.lstore_n 2, 1) := by decide +kernel
theorem dX9_linesOf_44 : decode cX9_linesOf 44 = .ok (.iinc 4 1, 3) := by decide +kernel
theorem dX9_linesOf_47 : decode cX9_linesOf 47 = .ok (.goto (-42), 3) := by decide +kernel
theorem dX9_linesOf_50 : decode cX9_linesOf 50 = .ok (.lload_n 2, 1) := by decide +kernel
theorem dX9_linesOf_51 : decode cX9_linesOf 51 = .ok (.lreturn, 1) := by decide +kernel
theorem dX10_init_0 : decode cX10_init 0 = .ok (.aload_n 0, 1) := by decide +kernel
theorem dX10_init_1 : decode cX10_init 1 = .ok (.invokespecial 1, 3) := by decide +kernel
theorem dX10_init_4 : decode cX10_init 4 = .ok (.aload_n 0, 1) := by decide +kernel
theorem dX10_init_5 : decode cX10_init 5 = .ok (.sipush 600, 3) := by decide +kernel
theorem dX10_init_8 : decode cX10_init 8 = .ok (.newarray .byte, 2) := by decide +kernel
theorem dX10_init_10 : decode cX10_init 10 = .ok (.putfield 9, 3) := by decide +kernel
theorem dX10_init_13 : decode cX10_init 13 = .ok (.aload_n 0, 1) := by decide +kernel
theorem dX10_init_14 : decode cX10_init 14 = .ok (.new 13, 3) := by decide +kernel
theorem dX10_init_17 : decode cX10_init 17 = .ok (.dup, 1) := by decide +kernel
theorem dX10_init_18 : decode cX10_init 18 = .ok (.invokespecial 15, 3) := by decide +kernel
theorem dX10_init_21 : decode cX10_init 21 = .ok (.putfield 16, 3) := by decide +kernel
theorem dX10_init_24 : decode cX10_init 24 = .ok (.aload_n 0, 1) := by decide +kernel
theorem dX10_init_25 : decode cX10_init 25 = .ok (.new 13, 3) := by decide +kernel
theorem dX10_init_28 : decode cX10_init 28 = .ok (.dup, 1) := by decide +kernel
theorem dX10_init_29 : decode cX10_init 29 = .ok (.invokespecial 15, 3) := by decide +kernel
theorem dX10_init_32 : decode cX10_init 32 = .ok (.putfield 20, 3) := by decide +kernel
theorem dX10_init_35 : decode cX10_init 35 = .ok (.aload_n 0, 1) := by decide +kernel
theorem dX10_init_36 : decode cX10_init 36 = .ok (.new 23, 3) := by decide +kernel
theorem dX10_init_39 : decode cX10_init 39 = .ok (.dup, 1) := by decide +kernel
theorem dX10_init_40 : decode cX10_init 40 = .ok (.invokespecial 25, 3) := by decide +kernel
theorem dX10_init_43 : decode cX10_init 43 = .ok (.putfield 26, 3) := by decide +kernel
theorem dX10_init_46 : decode cX10_init 46 = .ok (.aload_n 0, 1) := by decide +kernel
theorem dX10_init_47 : decode cX10_init 47 = .ok (.new 30, 3) := by decide +kernel
theorem dX10_init_50 : decode cX10_init 50 = .ok (.dup, 1) := by decide +kernel
theorem dX10_init_51 : decode cX10_init 51 = .ok (.invokespecial 32, 3) := by decide +kernel
theorem dX10_init_54 : decode cX10_init 54 = .ok (.putfield 33, 3) := by decide +kernel
theorem dX10_init_57 : decode cX10_init 57 = .ok (.aload_n 0, 1) := by decide +kernel
theorem dX10_init_58 : decode cX10_init 58 = .ok (.new 30, 3) := by decide +kernel
theorem dX10_init_61 : decode cX10_init 61 = .ok (.dup, 1) := by decide +kernel
theorem dX10_init_62 : decode cX10_init 62 = .ok (.invokespecial 32, 3) := by decide +kernel
theorem dX10_init_65 : decode cX10_init 65 = .ok (.putfield 37, 3) := by decide +kernel
theorem dX10_init_68 : decode cX10_init 68 = .ok (.aload_n 0, 1) := by decide +kernel
theorem dX10_init_69 : decode cX10_init 69 = .ok (.new 30, 3) := by decide +kernel
theorem dX10_init_72 : decode cX10_init 72 = .ok (.dup, 1) := by decide +kernel
theorem dX10_init_73 : decode cX10_init 73 = .ok (.invokespecial 32, 3) := by decide +kernel
theorem dX10_init_76 : decode cX10_init 76 = .ok (.putfield 40, 3) := by decide +kernel
theorem dX10_init_79 : decode cX10_init 79 = .ok (.aload_n 0, 1) := by decide +kernel
theorem dX10_init_80 : decode cX10_init 80 = .ok (.new 43, 3) := by decide +kernel
theorem dX10_init_83 : decode cX10_init 83 = .ok (.dup, 1) := by decide +kernel
theorem dX10_init_84 : decode cX10_init 84 = .ok (.invokespecial 45, 3) := by decide +kernel
theorem dX10_init_87 : decode cX10_init 87 = .ok (.putfield 46, 3) := by decide +kernel
theorem dX10_init_90 : decode cX10_init 90 = .ok (.aload_n 0, 1) := by decide +kernel
theorem dX10_init_91 : decode cX10_init 91 = .ok (.new 50, 3) := by decide +kernel
theorem dX10_init_94 : decode cX10_init 94 = .ok (.dup, 1) := by decide +kernel
theorem dX10_init_95 : decode cX10_init 95 = .ok (.invokespecial 52, 3) := by decide +kernel
theorem dX10_init_98 : decode cX10_init 98 = .ok (.putfield 53, 3) := by decide +kernel
theorem dX10_init_101 : decode cX10_init 101 = .ok (.aload_n 0, 1) := by decide +kernel
theorem dX10_init_102 : decode cX10_init 102 = .ok (.new 57, 3) := by decide +kernel
theorem dX10_init_105 : decode cX10_init 105 = .ok (.dup, 1) := by decide +kernel
theorem dX10_init_106 : decode cX10_init 106 = .ok (.invokespecial 59, 3) := by decide +kernel
theorem dX10_init_109 : decode cX10_init 109 = .ok (.putfield 60, 3) := by decide +kernel
theorem dX10_init_112 : decode cX10_init 112 = .ok (.return_, 1) := by decide +kernel
theorem dX10_feed_0 : decode cX10_feed 0 = .ok (.aload_n 0, 1) := by decide +kernel
theorem dX10_feed_1 : decode cX10_feed 1 = .ok (.getfield 64, 3) := by decide +kernel
theorem dX10_feed_4 : decode cX10_feed 4 = .ok (.bipush 20, 2) := by decide +kernel
theorem dX10_feed_6 : decode cX10_feed 6 = .ok (.iadd, 1) := by decide +kernel
theorem dX10_feed_7 : decode cX10_feed 7 = .ok (.sipush 600, 3) := by decide +kernel
theorem dX10_feed_10 : decode cX10_feed 10 = .ok (.if_icmp .le 9, 3) := by decide +kernel
theorem dX10_feed_13 : decode cX10_feed 13 = .ok (.aload_n 0, 1) := by decide +kernel
theorem dX10_feed_14 : decode cX10_feed 14 = .ok (.iconst 3, 1) := by decide +kernel
theorem dX10_feed_15 : decode cX10_feed 15 = .ok (.invokevirtual 68, 3) := by decide +kernel
theorem dX10_feed_18 : decode cX10_feed 18 = .ok (.ireturn, 1) := by decide +kernel
theorem dX10_feed_19 : decode cX10_feed 19 = .ok (.aload_n 0, 1) := by decide +kernel
theorem dX10_feed_20 : decode cX10_feed 20 = .ok (.iload_n 1, 1) := by decide +kernel
theorem dX10_feed_21 : decode cX10_feed 21 = .ok (.invokevirtual 72, 3) := by decide +kernel
theorem dX10_feed_24 : decode cX10_feed 24 = .ok (.aload_n 0, 1) := by decide +kernel
theorem dX10_feed_25 : decode cX10_feed 25 = .ok (.iload_n 2, 1) := by decide +kernel
theorem dX10_feed_26 : decode cX10_feed 26 = .ok (.invokevirtual 72, 3) := by decide +kernel
theorem dX10_feed_29 : decode cX10_feed 29 = .ok (.aload_n 0, 1) := by decide +kernel
theorem dX10_feed_30 : decode cX10_feed 30 = .ok (.iload_n 3, 1) := by decide +kernel
theorem dX10_feed_31 : decode cX10_feed 31 = .ok (.invokevirtual 72, 3) := by decide +kernel
theorem dX10_feed_34 : decode cX10_feed 34 = .ok (.aload_n 0, 1) := by decide +kernel
theorem dX10_feed_35 : decode cX10_feed 35 = .ok (.iload 4, 2) := by decide +kernel
theorem dX10_feed_37 : decode cX10_feed 37 = .ok (.invokevirtual 72, 3) := by decide +kernel
theorem dX10_feed_40 : decode cX10_feed 40 = .ok (.aload_n 0, 1) := by decide +kernel
theorem dX10_feed_41 : decode cX10_feed 41 = .ok (.iload 5, 2) := by decide +kernel
theorem dX10_feed_43 : decode cX10_feed 43 = .ok (.invokevirtual 72, 3) := by decide +kernel
theorem dX10_feed_46 : decode cX10_feed 46 = .ok (.aload_n 0, 1) := by decide +kernel
theorem dX10_feed_47 : decode cX10_feed 47 = .ok (.aload_n 0, 1) := by decide +kernel
theorem dX10_feed_48 : decode cX10_feed 48 = .ok (.getfield 64, 3) := by decide +kernel
theorem dX10_feed_51 : decode cX10_feed 51 = .ok (.invokevirtual 76, 3) := by decide +kernel
theorem dX10_feed_54 : decode cX10_feed 54 = .ok (.ireturn, 1) := by decide +kernel
theorem dX10_program_0 : decode cX10_program 0 = .ok (.iload_n 1, 1) := by decide +kernel
theorem dX10_program_1 : decode cX10_program 1 = .ok (.ifCond .lt 11, 3) := by decide +kernel
theorem dX10_program_4 : decode cX10_program 4 = .ok (.iload_n 1, 1) := by decide +kernel
theorem dX10_program_5 : decode cX10_program 5 = .ok (.aload_n 0, 1) := by decide +kernel
theorem dX10_program_6 : decode cX10_program 6 = .ok (.getfield 64, 3) := by decide +kernel
theorem dX10_program_9 : decode cX10_program 9 = .ok (.if_icmp .le 9, 3) := by decide +kernel
theorem dX10_program_12 : decode cX10_program 12 = .ok (.aload_n 0, 1) := by decide +kernel
theorem dX10_program_13 : decode cX10_program 13 = .ok (.iconst 2, 1) := by decide +kernel
theorem dX10_program_14 : decode cX10_program 14 = .ok (.invokevirtual 68, 3) := by decide +kernel
theorem dX10_program_17 : decode cX10_program 17 = .ok (.ireturn, 1) := by decide +kernel
theorem dX10_program_18 : decode cX10_program 18 = .ok (.aload_n 0, 1) := by decide +kernel
theorem dX10_program_19 : decode cX10_program 19 = .ok (.iconst 0, 1) := by decide +kernel
theorem dX10_program_20 : decode cX10_program 20 = .ok (.putfield 64, 3) := by decide +kernel
theorem dX10_program_23 : decode cX10_program 23 = .ok (.aload_n 0, 1) := by decide +kernel
theorem dX10_program_24 : decode cX10_program 24 = .ok (.aload_n 0, 1) := by decide +kernel
theorem dX10_program_25 : decode cX10_program 25 = .ok (.getfield 26, 3) := by decide +kernel
theorem dX10_program_28 : decode cX10_program 28 = .ok (.aload_n 0, 1) := by decide +kernel
theorem dX10_program_29 : decode cX10_program 29 = .ok (.getfield 9, 3) := by decide +kernel
theorem dX10_program_32 : decode cX10_program 32 = .ok (.iload_n 1, 1) := by decide +kernel
theorem dX10_program_33 : decode cX10_program 33 = .ok (.aload_n 0, 1) := by decide +kernel
theorem dX10_program_34 : decode cX10_program 34 = .ok (.getfield 20, 3) := by decide +kernel
theorem dX10_program_37 : decode cX10_program 37 = .ok (.invokevirtual 79, 3) := by decide +kernel
theorem dX10_program_40 : decode cX10_program 40 = .ok (.putfield 83, 3) := by decide +kernel
theorem dX10_program_43 : decode cX10_program 43 = .ok (.aload_n 0, 1) := by decide +kernel
theorem dX10_program_44 : decode cX10_program 44 = .ok (.getfield 83, 3) := by decide +kernel
theorem dX10_program_47 : decode cX10_program 47 = .ok (.ifCond .eq 9, 3) := by decide +kernel
theorem dX10_program_50 : decode cX10_program 50 = .ok (.aload_n 0, 1) := by decide +kernel
theorem dX10_program_51 : decode cX10_program 51 = .ok (.iconst 4, 1) := by decide +kernel
theorem dX10_program_52 : decode cX10_program 52 = .ok (.invokevirtual 68, 3) := by decide +kernel
theorem dX10_program_55 : decode cX10_program 55 = .ok (.ireturn, 1) := by decide +kernel
theorem dX10_program_56 : decode cX10_program 56 = .ok (.aload_n 0, 1) := by decide +kernel
theorem dX10_program_57 : decode cX10_program 57 = .ok (.invokevirtual 86, 3) := by decide +kernel
theorem dX10_program_60 : decode cX10_program 60 = .ok (.aload_n 0, 1) := by decide +kernel
theorem dX10_program_61 : decode cX10_program 61 = .ok (.aload_n 0, 1) := by decide +kernel
theorem dX10_program_62 : decode cX10_program 62 = .ok (.getfield 16, 3) := by decide +kernel
theorem dX10_program_65 : decode cX10_program 65 = .ok (.getfield 89, 3) := by decide +kernel
theorem dX10_program_68 : decode cX10_program 68 = .ok (.invokevirtual 76, 3) := by decide +kernel
theorem dX10_program_71 : decode cX10_program 71 = .ok (.ireturn, 1) := by decide +kernel
theorem dX10_fault_0 : decode cX10_fault 0 = .ok (.aload_n 0, 1) := by decide +kernel
theorem dX10_fault_1 : decode cX10_fault 1 = .ok (.getfield 83, 3) := by decide +kernel
theorem dX10_fault_4 : decode cX10_fault 4 = .ok (.ireturn, 1) := by decide +kernel
theorem dX10_where_0 : decode cX10_where 0 = .ok (.aload_n 0, 1) := by decide +kernel
theorem dX10_where_1 : decode cX10_where 1 = .ok (.getfield 92, 3) := by decide +kernel
theorem dX10_where_4 : decode cX10_where 4 = .ok (.iconst 4, 1) := by decide +kernel
theorem dX10_where_5 : decode cX10_where 5 = .ok (.if_icmp .ne 13, 3) := by decide +kernel
theorem dX10_where_8 : decode cX10_where 8 = .ok (.aload_n 0, 1) := by decide +kernel
theorem dX10_where_9 : decode cX10_where 9 = .ok (.getfield 26, 3) := by decide +kernel
theorem dX10_where_12 : decode cX10_where 12 = .ok (.getfield 95, 3) := by decide +kernel
theorem dX10_where_15 : decode cX10_where 15 = .ok (.goto 4, 3) := by decide +kernel
theorem dX10_where_18 : decode cX10_where 18 = .ok (.iconst (-1), 1) := by decide +kernel
theorem dX10_where_19 : decode cX10_where 19 = .ok (.ireturn, 1) := by decide +kernel
theorem dX10_function_0 : decode cX10_function 0 = .ok (.aload_n 0, 1) := by decide +kernel
theorem dX10_function_1 : decode cX10_function 1 = .ok (.getfield 16, 3) := by decide +kernel
theorem dX10_function_4 : decode cX10_function 4 = .ok (.iload_n 1, 1) := by decide +kernel
theorem dX10_function_5 : decode cX10_function 5 = .ok (.invokevirtual 98, 3) := by decide +kernel
theorem dX10_function_8 : decode cX10_function 8 = .ok (.ifCond .ne 5, 3) := by decide +kernel
theorem dX10_function_11 : decode cX10_function 11 = .ok (.iconst (-1), 1) := by decide +kernel
theorem dX10_function_12 : decode cX10_function 12 = .ok (.ireturn, 1) := by decide +kernel
theorem dX10_function_13 : decode cX10_function 13 = .ok (.iload_n 2, 1) := by decide +kernel
theorem dX10_function_14 : decode cX10_function 14 = .ok (.tableswitch 82 0 3 #[30, 43, 56, 69], 30) := by decide +kernel
theorem dX10_function_44 : decode cX10_function 44 = .ok (.aload_n 0, 1) := by decide +kernel
theorem dX10_function_45 : decode cX10_function 45 = .ok (.getfield 16, 3) := by decide +kernel
theorem dX10_function_48 : decode cX10_function 48 = .ok (.getfield 102, 3) := by decide +kernel
theorem dX10_function_51 : decode cX10_function 51 = .ok (.iload_n 1, 1) := by decide +kernel
theorem dX10_function_52 : decode cX10_function 52 = .ok (.aaload, 1) := by decide +kernel
theorem dX10_function_53 : decode cX10_function 53 = .ok (.getfield 106, 3) := by decide +kernel
theorem dX10_function_56 : decode cX10_function 56 = .ok (.ireturn, 1) := by decide +kernel
theorem dX10_function_57 : decode cX10_function 57 = .ok (.aload_n 0, 1) := by decide +kernel
theorem dX10_function_58 : decode cX10_function 58 = .ok (.getfield 16, 3) := by decide +kernel
theorem dX10_function_61 : decode cX10_function 61 = .ok (.getfield 102, 3) := by decide +kernel
theorem dX10_function_64 : decode cX10_function 64 = .ok (.iload_n 1, 1) := by decide +kernel
theorem dX10_function_65 : decode cX10_function 65 = .ok (.aaload, 1) := by decide +kernel
theorem dX10_function_66 : decode cX10_function 66 = .ok (.getfield 111, 3) := by decide +kernel
theorem dX10_function_69 : decode cX10_function 69 = .ok (.ireturn, 1) := by decide +kernel
theorem dX10_function_70 : decode cX10_function 70 = .ok (.aload_n 0, 1) := by decide +kernel
theorem dX10_function_71 : decode cX10_function 71 = .ok (.getfield 16, 3) := by decide +kernel
theorem dX10_function_74 : decode cX10_function 74 = .ok (.getfield 102, 3) := by decide +kernel
theorem dX10_function_77 : decode cX10_function 77 = .ok (.iload_n 1, 1) := by decide +kernel
theorem dX10_function_78 : decode cX10_function 78 = .ok (.aaload, 1) := by decide +kernel
theorem dX10_function_79 : decode cX10_function 79 = .ok (.getfield 114, 3) := by decide +kernel
theorem dX10_function_82 : decode cX10_function 82 = .ok (.ireturn, 1) := by decide +kernel
theorem dX10_function_83 : decode cX10_function 83 = .ok (.aload_n 0, 1) := by decide +kernel
theorem dX10_function_84 : decode cX10_function 84 = .ok (.getfield 16, 3) := by decide +kernel
theorem dX10_function_87 : decode cX10_function 87 = .ok (.getfield 102, 3) := by decide +kernel
theorem dX10_function_90 : decode cX10_function 90 = .ok (.iload_n 1, 1) := by decide +kernel
theorem dX10_function_91 : decode cX10_function 91 = .ok (.aaload, 1) := by decide +kernel
theorem dX10_function_92 : decode cX10_function 92 = .ok (.getfield 117, 3) := by decide +kernel
theorem dX10_function_95 : decode cX10_function 95 = .ok (.ireturn, 1) := by decide +kernel
theorem dX10_function_96 : decode cX10_function 96 = .ok (.iconst (-1), 1) := by decide +kernel
theorem dX10_function_97 : decode cX10_function 97 = .ok (.ireturn, 1) := by decide +kernel
theorem dX10_name_0 : decode cX10_name 0 = .ok (.aload_n 0, 1) := by decide +kernel
theorem dX10_name_1 : decode cX10_name 1 = .ok (.getfield 16, 3) := by decide +kernel
theorem dX10_name_4 : decode cX10_name 4 = .ok (.iload_n 1, 1) := by decide +kernel
theorem dX10_name_5 : decode cX10_name 5 = .ok (.invokevirtual 98, 3) := by decide +kernel
theorem dX10_name_8 : decode cX10_name 8 = .ok (.ifCond .ne 13, 3) := by decide +kernel
theorem dX10_name_11 : decode cX10_name 11 = .ok (.new 120, 3) := by decide +kernel
theorem dX10_name_14 : decode cX10_name 14 = .ok (.dup, 1) := by decide +kernel
theorem dX10_name_15 : decode cX10_name 15 = .ok (.ldc 122, 2) := by decide +kernel
theorem dX10_name_17 : decode cX10_name 17 = .ok (.invokespecial 124, 3) := by decide +kernel
theorem dX10_name_20 : decode cX10_name 20 = .ok (.athrow, 1) := by decide +kernel
theorem dX10_name_21 : decode cX10_name 21 = .ok (.aload_n 0, 1) := by decide +kernel
theorem dX10_name_22 : decode cX10_name 22 = .ok (.getfield 16, 3) := by decide +kernel
theorem dX10_name_25 : decode cX10_name 25 = .ok (.getfield 127, 3) := by decide +kernel
theorem dX10_name_28 : decode cX10_name 28 = .ok (.aload_n 0, 1) := by decide +kernel
theorem dX10_name_29 : decode cX10_name 29 = .ok (.getfield 16, 3) := by decide +kernel
theorem dX10_name_32 : decode cX10_name 32 = .ok (.getfield 102, 3) := by decide +kernel
theorem dX10_name_35 : decode cX10_name 35 = .ok (.iload_n 1, 1) := by decide +kernel
theorem dX10_name_36 : decode cX10_name 36 = .ok (.aaload, 1) := by decide +kernel
theorem dX10_name_37 : decode cX10_name 37 = .ok (.getfield 131, 3) := by decide +kernel
theorem dX10_name_40 : decode cX10_name 40 = .ok (.iload_n 2, 1) := by decide +kernel
theorem dX10_name_41 : decode cX10_name 41 = .ok (.invokevirtual 134, 3) := by decide +kernel
theorem dX10_name_44 : decode cX10_name 44 = .ok (.istore_n 3, 1) := by decide +kernel
theorem dX10_name_45 : decode cX10_name 45 = .ok (.iload_n 3, 1) := by decide +kernel
theorem dX10_name_46 : decode cX10_name 46 = .ok (.iconst (-1), 1) := by decide +kernel
theorem dX10_name_47 : decode cX10_name 47 = .ok (.if_icmp .ne 13, 3) := by decide +kernel
theorem dX10_name_50 : decode cX10_name 50 = .ok (.new 120, 3) := by decide +kernel
theorem dX10_name_53 : decode cX10_name 53 = .ok (.dup, 1) := by decide +kernel
theorem dX10_name_54 : decode cX10_name 54 = .ok (.ldc 140, 2) := by decide +kernel
theorem dX10_name_56 : decode cX10_name 56 = .ok (.invokespecial 124, 3) := by decide +kernel
theorem dX10_name_59 : decode cX10_name 59 = .ok (.athrow, 1) := by decide +kernel
theorem dX10_name_60 : decode cX10_name 60 = .ok (.iload_n 3, 1) := by decide +kernel
theorem dX10_name_61 : decode cX10_name 61 = .ok (.ireturn, 1) := by decide +kernel
theorem dX10_line_0 : decode cX10_line 0 = .ok (.aload_n 0, 1) := by decide +kernel
theorem dX10_line_1 : decode cX10_line 1 = .ok (.getfield 16, 3) := by decide +kernel
theorem dX10_line_4 : decode cX10_line 4 = .ok (.iload_n 1, 1) := by decide +kernel
theorem dX10_line_5 : decode cX10_line 5 = .ok (.invokevirtual 142, 3) := by decide +kernel
theorem dX10_line_8 : decode cX10_line 8 = .ok (.ifCond .ne 5, 3) := by decide +kernel
theorem dX10_line_11 : decode cX10_line 11 = .ok (.iconst (-1), 1) := by decide +kernel
theorem dX10_line_12 : decode cX10_line 12 = .ok (.ireturn, 1) := by decide +kernel
theorem dX10_line_13 : decode cX10_line 13 = .ok (.iload_n 2, 1) := by decide +kernel
theorem dX10_line_14 : decode cX10_line 14 = .ok (.tableswitch 82 0 3 #[30, 43, 56, 69], 30) := by decide +kernel
theorem dX10_line_44 : decode cX10_line 44 = .ok (.aload_n 0, 1) := by decide +kernel
theorem dX10_line_45 : decode cX10_line 45 = .ok (.getfield 16, 3) := by decide +kernel
theorem dX10_line_48 : decode cX10_line 48 = .ok (.getfield 145, 3) := by decide +kernel
theorem dX10_line_51 : decode cX10_line 51 = .ok (.iload_n 1, 1) := by decide +kernel
theorem dX10_line_52 : decode cX10_line 52 = .ok (.aaload, 1) := by decide +kernel
theorem dX10_line_53 : decode cX10_line 53 = .ok (.getfield 149, 3) := by decide +kernel
theorem dX10_line_56 : decode cX10_line 56 = .ok (.ireturn, 1) := by decide +kernel
theorem dX10_line_57 : decode cX10_line 57 = .ok (.aload_n 0, 1) := by decide +kernel
theorem dX10_line_58 : decode cX10_line 58 = .ok (.getfield 16, 3) := by decide +kernel
theorem dX10_line_61 : decode cX10_line 61 = .ok (.getfield 145, 3) := by decide +kernel
theorem dX10_line_64 : decode cX10_line 64 = .ok (.iload_n 1, 1) := by decide +kernel
theorem dX10_line_65 : decode cX10_line 65 = .ok (.aaload, 1) := by decide +kernel
theorem dX10_line_66 : decode cX10_line 66 = .ok (.getfield 154, 3) := by decide +kernel
theorem dX10_line_69 : decode cX10_line 69 = .ok (.ireturn, 1) := by decide +kernel
theorem dX10_line_70 : decode cX10_line 70 = .ok (.aload_n 0, 1) := by decide +kernel
theorem dX10_line_71 : decode cX10_line 71 = .ok (.getfield 16, 3) := by decide +kernel
theorem dX10_line_74 : decode cX10_line 74 = .ok (.getfield 145, 3) := by decide +kernel
theorem dX10_line_77 : decode cX10_line 77 = .ok (.iload_n 1, 1) := by decide +kernel
theorem dX10_line_78 : decode cX10_line 78 = .ok (.aaload, 1) := by decide +kernel
theorem dX10_line_79 : decode cX10_line 79 = .ok (.getfield 157, 3) := by decide +kernel
theorem dX10_line_82 : decode cX10_line 82 = .ok (.ireturn, 1) := by decide +kernel
theorem dX10_line_83 : decode cX10_line 83 = .ok (.aload_n 0, 1) := by decide +kernel
theorem dX10_line_84 : decode cX10_line 84 = .ok (.getfield 16, 3) := by decide +kernel
theorem dX10_line_87 : decode cX10_line 87 = .ok (.getfield 145, 3) := by decide +kernel
theorem dX10_line_90 : decode cX10_line 90 = .ok (.iload_n 1, 1) := by decide +kernel
theorem dX10_line_91 : decode cX10_line 91 = .ok (.aaload, 1) := by decide +kernel
theorem dX10_line_92 : decode cX10_line 92 = .ok (.getfield 160, 3) := by decide +kernel
theorem dX10_line_95 : decode cX10_line 95 = .ok (.ireturn, 1) := by decide +kernel
theorem dX10_line_96 : decode cX10_line 96 = .ok (.iconst (-1), 1) := by decide +kernel
theorem dX10_line_97 : decode cX10_line 97 = .ok (.ireturn, 1) := by decide +kernel
theorem dX10_run_0 : decode cX10_run 0 = .ok (.aload_n 0, 1) := by decide +kernel
theorem dX10_run_1 : decode cX10_run 1 = .ok (.getfield 16, 3) := by decide +kernel
theorem dX10_run_4 : decode cX10_run 4 = .ok (.iload_n 1, 1) := by decide +kernel
theorem dX10_run_5 : decode cX10_run 5 = .ok (.invokevirtual 98, 3) := by decide +kernel
theorem dX10_run_8 : decode cX10_run 8 = .ok (.ifCond .ne 9, 3) := by decide +kernel
theorem dX10_run_11 : decode cX10_run 11 = .ok (.aload_n 0, 1) := by decide +kernel
theorem dX10_run_12 : decode cX10_run 12 = .ok (.iconst 1, 1) := by decide +kernel
theorem dX10_run_13 : decode cX10_run 13 = .ok (.invokevirtual 68, 3) := by decide +kernel
theorem dX10_run_16 : decode cX10_run 16 = .ok (.ireturn, 1) := by decide +kernel
theorem dX10_run_17 : decode cX10_run 17 = .ok (.iload 5, 2) := by decide +kernel
theorem dX10_run_19 : decode cX10_run 19 = .ok (.iconst 1, 1) := by decide +kernel
theorem dX10_run_20 : decode cX10_run 20 = .ok (.if_icmp .lt 11, 3) := by decide +kernel
theorem dX10_run_23 : decode cX10_run 23 = .ok (.iload 5, 2) := by decide +kernel
theorem dX10_run_25 : decode cX10_run 25 = .ok (.sipush 2000, 3) := by decide +kernel
theorem dX10_run_28 : decode cX10_run 28 = .ok (.if_icmp .le 9, 3) := by decide +kernel
theorem dX10_run_31 : decode cX10_run 31 = .ok (.aload_n 0, 1) := by decide +kernel
theorem dX10_run_32 : decode cX10_run 32 = .ok (.iconst 2, 1) := by decide +kernel
theorem dX10_run_33 : decode cX10_run 33 = .ok (.invokevirtual 68, 3) := by decide +kernel
theorem dX10_run_36 : decode cX10_run 36 = .ok (.ireturn, 1) := by decide +kernel
theorem dX10_run_37 : decode cX10_run 37 = .ok (.aload_n 0, 1) := by decide +kernel
theorem dX10_run_38 : decode cX10_run 38 = .ok (.getfield 33, 3) := by decide +kernel
theorem dX10_run_41 : decode cX10_run 41 = .ok (.aload_n 0, 1) := by decide +kernel
theorem dX10_run_42 : decode cX10_run 42 = .ok (.getfield 16, 3) := by decide +kernel
theorem dX10_run_45 : decode cX10_run 45 = .ok (.iload 5, 2) := by decide +kernel
theorem dX10_run_47 : decode cX10_run 47 = .ok (.iconst (-1), 1) := by decide +kernel
theorem dX10_run_48 : decode cX10_run 48 = .ok (.invokevirtual 163, 3) := by decide +kernel
theorem dX10_run_51 : decode cX10_run 51 = .ok (.aload_n 0, 1) := by decide +kernel
theorem dX10_run_52 : decode cX10_run 52 = .ok (.getfield 33, 3) := by decide +kernel
theorem dX10_run_55 : decode cX10_run 55 = .ok (.iload_n 1, 1) := by decide +kernel
theorem dX10_run_56 : decode cX10_run 56 = .ok (.iload_n 2, 1) := by decide +kernel
theorem dX10_run_57 : decode cX10_run 57 = .ok (.iload_n 3, 1) := by decide +kernel
theorem dX10_run_58 : decode cX10_run 58 = .ok (.iload 4, 2) := by decide +kernel
theorem dX10_run_60 : decode cX10_run 60 = .ok (.invokevirtual 167, 3) := by decide +kernel
theorem dX10_run_63 : decode cX10_run 63 = .ok (.aload_n 0, 1) := by decide +kernel
theorem dX10_run_64 : decode cX10_run 64 = .ok (.iconst 1, 1) := by decide +kernel
theorem dX10_run_65 : decode cX10_run 65 = .ok (.putfield 171, 3) := by decide +kernel
theorem dX10_run_68 : decode cX10_run 68 = .ok (.aload_n 0, 1) := by decide +kernel
theorem dX10_run_69 : decode cX10_run 69 = .ok (.aload_n 0, 1) := by decide +kernel
theorem dX10_run_70 : decode cX10_run 70 = .ok (.getfield 33, 3) := by decide +kernel
theorem dX10_run_73 : decode cX10_run 73 = .ok (.getfield 175, 3) := by decide +kernel
theorem dX10_run_76 : decode cX10_run 76 = .ok (.invokevirtual 76, 3) := by decide +kernel
theorem dX10_run_79 : decode cX10_run 79 = .ok (.ireturn, 1) := by decide +kernel
theorem dX10_ran_0 : decode cX10_ran 0 = .ok (.aload_n 0, 1) := by decide +kernel
theorem dX10_ran_1 : decode cX10_ran 1 = .ok (.getfield 171, 3) := by decide +kernel
theorem dX10_ran_4 : decode cX10_ran 4 = .ok (.ifCond .ne 9, 3) := by decide +kernel
theorem dX10_ran_7 : decode cX10_ran 7 = .ok (.aload_n 0, 1) := by decide +kernel
theorem dX10_ran_8 : decode cX10_ran 8 = .ok (.iconst 5, 1) := by decide +kernel
theorem dX10_ran_9 : decode cX10_ran 9 = .ok (.invokevirtual 68, 3) := by decide +kernel
theorem dX10_ran_12 : decode cX10_ran 12 = .ok (.ireturn, 1) := by decide +kernel
theorem dX10_ran_13 : decode cX10_ran 13 = .ok (.iload_n 1, 1) := by decide +kernel
theorem dX10_ran_14 : decode cX10_ran 14 = .ok (.tableswitch 113 0 5 #[38, 50, 62, 74, 86, 101], 38) := by decide +kernel
theorem dX10_ran_52 : decode cX10_ran 52 = .ok (.aload_n 0, 1) := by decide +kernel
theorem dX10_ran_53 : decode cX10_ran 53 = .ok (.aload_n 0, 1) := by decide +kernel
theorem dX10_ran_54 : decode cX10_ran 54 = .ok (.getfield 33, 3) := by decide +kernel
theorem dX10_ran_57 : decode cX10_ran 57 = .ok (.getfield 178, 3) := by decide +kernel
theorem dX10_ran_60 : decode cX10_ran 60 = .ok (.invokevirtual 76, 3) := by decide +kernel
theorem dX10_ran_63 : decode cX10_ran 63 = .ok (.ireturn, 1) := by decide +kernel
theorem dX10_ran_64 : decode cX10_ran 64 = .ok (.aload_n 0, 1) := by decide +kernel
theorem dX10_ran_65 : decode cX10_ran 65 = .ok (.aload_n 0, 1) := by decide +kernel
theorem dX10_ran_66 : decode cX10_ran 66 = .ok (.getfield 33, 3) := by decide +kernel
theorem dX10_ran_69 : decode cX10_ran 69 = .ok (.getfield 181, 3) := by decide +kernel
theorem dX10_ran_72 : decode cX10_ran 72 = .ok (.invokevirtual 76, 3) := by decide +kernel
theorem dX10_ran_75 : decode cX10_ran 75 = .ok (.ireturn, 1) := by decide +kernel
theorem dX10_ran_76 : decode cX10_ran 76 = .ok (.aload_n 0, 1) := by decide +kernel
theorem dX10_ran_77 : decode cX10_ran 77 = .ok (.aload_n 0, 1) := by decide +kernel
theorem dX10_ran_78 : decode cX10_ran 78 = .ok (.getfield 33, 3) := by decide +kernel
theorem dX10_ran_81 : decode cX10_ran 81 = .ok (.getfield 184, 3) := by decide +kernel
theorem dX10_ran_84 : decode cX10_ran 84 = .ok (.invokevirtual 76, 3) := by decide +kernel
theorem dX10_ran_87 : decode cX10_ran 87 = .ok (.ireturn, 1) := by decide +kernel
theorem dX10_ran_88 : decode cX10_ran 88 = .ok (.aload_n 0, 1) := by decide +kernel
theorem dX10_ran_89 : decode cX10_ran 89 = .ok (.aload_n 0, 1) := by decide +kernel
theorem dX10_ran_90 : decode cX10_ran 90 = .ok (.getfield 33, 3) := by decide +kernel
theorem dX10_ran_93 : decode cX10_ran 93 = .ok (.getfield 187, 3) := by decide +kernel
theorem dX10_ran_96 : decode cX10_ran 96 = .ok (.invokevirtual 76, 3) := by decide +kernel
theorem dX10_ran_99 : decode cX10_ran 99 = .ok (.ireturn, 1) := by decide +kernel
theorem dX10_ran_100 : decode cX10_ran 100 = .ok (.aload_n 0, 1) := by decide +kernel
theorem dX10_ran_101 : decode cX10_ran 101 = .ok (.aload_n 0, 1) := by decide +kernel
theorem dX10_ran_102 : decode cX10_ran 102 = .ok (.getfield 33, 3) := by decide +kernel
theorem dX10_ran_105 : decode cX10_ran 105 = .ok (.getfield 190, 3) := by decide +kernel
theorem dX10_ran_108 : decode cX10_ran 108 = .ok (.invokestatic 194, 3) := by decide +kernel
theorem dX10_ran_111 : decode cX10_ran 111 = .ok (.invokevirtual 76, 3) := by decide +kernel
theorem dX10_ran_114 : decode cX10_ran 114 = .ok (.ireturn, 1) := by decide +kernel
theorem dX10_ran_115 : decode cX10_ran 115 = .ok (.aload_n 0, 1) := by decide +kernel
theorem dX10_ran_116 : decode cX10_ran 116 = .ok (.aload_n 0, 1) := by decide +kernel
theorem dX10_ran_117 : decode cX10_ran 117 = .ok (.getfield 33, 3) := by decide +kernel
theorem dX10_ran_120 : decode cX10_ran 120 = .ok (.getfield 200, 3) := by decide +kernel
theorem dX10_ran_123 : decode cX10_ran 123 = .ok (.invokevirtual 76, 3) := by decide +kernel
theorem dX10_ran_126 : decode cX10_ran 126 = .ok (.ireturn, 1) := by decide +kernel
theorem dX10_ran_127 : decode cX10_ran 127 = .ok (.aload_n 0, 1) := by decide +kernel
theorem dX10_ran_128 : decode cX10_ran 128 = .ok (.iconst 2, 1) := by decide +kernel
theorem dX10_ran_129 : decode cX10_ran 129 = .ok (.invokevirtual 68, 3) := by decide +kernel
theorem dX10_ran_132 : decode cX10_ran 132 = .ok (.ireturn, 1) := by decide +kernel
theorem dX10_said_0 : decode cX10_said 0 = .ok (.aload_n 0, 1) := by decide +kernel
theorem dX10_said_1 : decode cX10_said 1 = .ok (.getfield 171, 3) := by decide +kernel
theorem dX10_said_4 : decode cX10_said 4 = .ok (.ifCond .eq 14, 3) := by decide +kernel
theorem dX10_said_7 : decode cX10_said 7 = .ok (.aload_n 0, 1) := by decide +kernel
theorem dX10_said_8 : decode cX10_said 8 = .ok (.getfield 33, 3) := by decide +kernel
theorem dX10_said_11 : decode cX10_said 11 = .ok (.iload_n 1, 1) := by decide +kernel
theorem dX10_said_12 : decode cX10_said 12 = .ok (.invokevirtual 203, 3) := by decide +kernel
theorem dX10_said_15 : decode cX10_said 15 = .ok (.ifCond .ne 13, 3) := by decide +kernel
theorem dX10_said_18 : decode cX10_said 18 = .ok (.new 120, 3) := by decide +kernel
theorem dX10_said_21 : decode cX10_said 21 = .ok (.dup, 1) := by decide +kernel
theorem dX10_said_22 : decode cX10_said 22 = .ok (.ldc 206, 2) := by decide +kernel
theorem dX10_said_24 : decode cX10_said 24 = .ok (.invokespecial 124, 3) := by decide +kernel
theorem dX10_said_27 : decode cX10_said 27 = .ok (.athrow, 1) := by decide +kernel
theorem dX10_said_28 : decode cX10_said 28 = .ok (.aload_n 0, 1) := by decide +kernel
theorem dX10_said_29 : decode cX10_said 29 = .ok (.getfield 33, 3) := by decide +kernel
theorem dX10_said_32 : decode cX10_said 32 = .ok (.iload_n 1, 1) := by decide +kernel
theorem dX10_said_33 : decode cX10_said 33 = .ok (.invokevirtual 208, 3) := by decide +kernel
theorem dX10_said_36 : decode cX10_said 36 = .ok (.ireturn, 1) := by decide +kernel
theorem dX10_trace_0 : decode cX10_trace 0 = .ok (.aload_n 0, 1) := by decide +kernel
theorem dX10_trace_1 : decode cX10_trace 1 = .ok (.getfield 171, 3) := by decide +kernel
theorem dX10_trace_4 : decode cX10_trace 4 = .ok (.ifCond .eq 15, 3) := by decide +kernel
theorem dX10_trace_7 : decode cX10_trace 7 = .ok (.aload_n 0, 1) := by decide +kernel
theorem dX10_trace_8 : decode cX10_trace 8 = .ok (.getfield 33, 3) := by decide +kernel
theorem dX10_trace_11 : decode cX10_trace 11 = .ok (.iload_n 1, 1) := by decide +kernel
theorem dX10_trace_12 : decode cX10_trace 12 = .ok (.iload_n 2, 1) := by decide +kernel
theorem dX10_trace_13 : decode cX10_trace 13 = .ok (.invokevirtual 211, 3) := by decide +kernel
theorem dX10_trace_16 : decode cX10_trace 16 = .ok (.ifCond .ne 13, 3) := by decide +kernel
theorem dX10_trace_19 : decode cX10_trace 19 = .ok (.new 120, 3) := by decide +kernel
theorem dX10_trace_22 : decode cX10_trace 22 = .ok (.dup, 1) := by decide +kernel
theorem dX10_trace_23 : decode cX10_trace 23 = .ok (.ldc 215, 2) := by decide +kernel
theorem dX10_trace_25 : decode cX10_trace 25 = .ok (.invokespecial 124, 3) := by decide +kernel
theorem dX10_trace_28 : decode cX10_trace 28 = .ok (.athrow, 1) := by decide +kernel
theorem dX10_trace_29 : decode cX10_trace 29 = .ok (.aload_n 0, 1) := by decide +kernel
theorem dX10_trace_30 : decode cX10_trace 30 = .ok (.getfield 33, 3) := by decide +kernel
theorem dX10_trace_33 : decode cX10_trace 33 = .ok (.iload_n 1, 1) := by decide +kernel
theorem dX10_trace_34 : decode cX10_trace 34 = .ok (.iload_n 2, 1) := by decide +kernel
theorem dX10_trace_35 : decode cX10_trace 35 = .ok (.invokevirtual 217, 3) := by decide +kernel
theorem dX10_trace_38 : decode cX10_trace 38 = .ok (.ireturn, 1) := by decide +kernel
theorem dX10_covered_0 : decode cX10_covered 0 = .ok (.aload_n 0, 1) := by decide +kernel
theorem dX10_covered_1 : decode cX10_covered 1 = .ok (.getfield 171, 3) := by decide +kernel
theorem dX10_covered_4 : decode cX10_covered 4 = .ok (.ifCond .eq 14, 3) := by decide +kernel
theorem dX10_covered_7 : decode cX10_covered 7 = .ok (.aload_n 0, 1) := by decide +kernel
theorem dX10_covered_8 : decode cX10_covered 8 = .ok (.getfield 16, 3) := by decide +kernel
theorem dX10_covered_11 : decode cX10_covered 11 = .ok (.iload_n 1, 1) := by decide +kernel
theorem dX10_covered_12 : decode cX10_covered 12 = .ok (.invokevirtual 142, 3) := by decide +kernel
theorem dX10_covered_15 : decode cX10_covered 15 = .ok (.ifCond .ne 5, 3) := by decide +kernel
theorem dX10_covered_18 : decode cX10_covered 18 = .ok (.iconst (-1), 1) := by decide +kernel
theorem dX10_covered_19 : decode cX10_covered 19 = .ok (.ireturn, 1) := by decide +kernel
theorem dX10_covered_20 : decode cX10_covered 20 = .ok (.aload_n 0, 1) := by decide +kernel
theorem dX10_covered_21 : decode cX10_covered 21 = .ok (.getfield 33, 3) := by decide +kernel
theorem dX10_covered_24 : decode cX10_covered 24 = .ok (.getfield 190, 3) := by decide +kernel
theorem dX10_covered_27 : decode cX10_covered 27 = .ok (.iload_n 1, 1) := by decide +kernel
theorem dX10_covered_28 : decode cX10_covered 28 = .ok (.lshr, 1) := by decide +kernel
theorem dX10_covered_29 : decode cX10_covered 29 = .ok (.lconst 1, 1) := by decide +kernel
theorem dX10_covered_30 : decode cX10_covered 30 = .ok (.land, 1) := by decide +kernel
theorem dX10_covered_31 : decode cX10_covered 31 = .ok (.lconst 0, 1) := by decide +kernel
theorem dX10_covered_32 : decode cX10_covered 32 = .ok (.lcmp, 1) := by decide +kernel
theorem dX10_covered_33 : decode cX10_covered 33 = .ok (.ifCond .eq 7, 3) := by decide +kernel
theorem dX10_covered_36 : decode cX10_covered 36 = .ok (.iconst 1, 1) := by decide +kernel
theorem dX10_covered_37 : decode cX10_covered 37 = .ok (.goto 4, 3) := by decide +kernel
theorem dX10_covered_40 : decode cX10_covered 40 = .ok (.iconst 0, 1) := by decide +kernel
theorem dX10_covered_41 : decode cX10_covered 41 = .ok (.ireturn, 1) := by decide +kernel
theorem dX10_place_0 : decode cX10_place 0 = .ok (.aload_n 0, 1) := by decide +kernel
theorem dX10_place_1 : decode cX10_place 1 = .ok (.getfield 171, 3) := by decide +kernel
theorem dX10_place_4 : decode cX10_place 4 = .ok (.ifCond .ne 9, 3) := by decide +kernel
theorem dX10_place_7 : decode cX10_place 7 = .ok (.aload_n 0, 1) := by decide +kernel
theorem dX10_place_8 : decode cX10_place 8 = .ok (.iconst 5, 1) := by decide +kernel
theorem dX10_place_9 : decode cX10_place 9 = .ok (.invokevirtual 68, 3) := by decide +kernel
theorem dX10_place_12 : decode cX10_place 12 = .ok (.ireturn, 1) := by decide +kernel
theorem dX10_place_13 : decode cX10_place 13 = .ok (.iload_n 1, 1) := by decide +kernel
theorem dX10_place_14 : decode cX10_place 14 = .ok (.ifCond .lt 9, 3) := by decide +kernel
theorem dX10_place_17 : decode cX10_place 17 = .ok (.iload_n 1, 1) := by decide +kernel
theorem dX10_place_18 : decode cX10_place 18 = .ok (.bipush 8, 2) := by decide +kernel
theorem dX10_place_20 : decode cX10_place 20 = .ok (.if_icmp .lt 9, 3) := by decide +kernel
theorem dX10_place_23 : decode cX10_place 23 = .ok (.aload_n 0, 1) := by decide +kernel
theorem dX10_place_24 : decode cX10_place 24 = .ok (.iconst 2, 1) := by decide +kernel
theorem dX10_place_25 : decode cX10_place 25 = .ok (.invokevirtual 68, 3) := by decide +kernel
theorem dX10_place_28 : decode cX10_place 28 = .ok (.ireturn, 1) := by decide +kernel
theorem dX10_place_29 : decode cX10_place 29 = .ok (.aload_n 0, 1) := by decide +kernel
theorem dX10_place_30 : decode cX10_place 30 = .ok (.aload_n 0, 1) := by decide +kernel
theorem dX10_place_31 : decode cX10_place 31 = .ok (.getfield 33, 3) := by decide +kernel
theorem dX10_place_34 : decode cX10_place 34 = .ok (.iload_n 1, 1) := by decide +kernel
theorem dX10_place_35 : decode cX10_place 35 = .ok (.invokevirtual 220, 3) := by decide +kernel
theorem dX10_place_38 : decode cX10_place 38 = .ok (.invokevirtual 76, 3) := by decide +kernel
theorem dX10_place_41 : decode cX10_place 41 = .ok (.ireturn, 1) := by decide +kernel
theorem dX10_wrong_0 : decode cX10_wrong 0 = .ok (.aload_n 0, 1) := by decide +kernel
theorem dX10_wrong_1 : decode cX10_wrong 1 = .ok (.getfield 16, 3) := by decide +kernel
theorem dX10_wrong_4 : decode cX10_wrong 4 = .ok (.iload_n 2, 1) := by decide +kernel
theorem dX10_wrong_5 : decode cX10_wrong 5 = .ok (.invokevirtual 98, 3) := by decide +kernel
theorem dX10_wrong_8 : decode cX10_wrong 8 = .ok (.ifCond .ne 9, 3) := by decide +kernel
theorem dX10_wrong_11 : decode cX10_wrong 11 = .ok (.aload_n 0, 1) := by decide +kernel
theorem dX10_wrong_12 : decode cX10_wrong 12 = .ok (.iconst 1, 1) := by decide +kernel
theorem dX10_wrong_13 : decode cX10_wrong 13 = .ok (.invokevirtual 68, 3) := by decide +kernel
theorem dX10_wrong_16 : decode cX10_wrong 16 = .ok (.ireturn, 1) := by decide +kernel
theorem dX10_wrong_17 : decode cX10_wrong 17 = .ok (.iload_n 1, 1) := by decide +kernel
theorem dX10_wrong_18 : decode cX10_wrong 18 = .ok (.ifCond .lt 8, 3) := by decide +kernel
theorem dX10_wrong_21 : decode cX10_wrong 21 = .ok (.iload_n 1, 1) := by decide +kernel
theorem dX10_wrong_22 : decode cX10_wrong 22 = .ok (.iconst 4, 1) := by decide +kernel
theorem dX10_wrong_23 : decode cX10_wrong 23 = .ok (.if_icmp .lt 9, 3) := by decide +kernel
theorem dX10_wrong_26 : decode cX10_wrong 26 = .ok (.aload_n 0, 1) := by decide +kernel
theorem dX10_wrong_27 : decode cX10_wrong 27 = .ok (.iconst 2, 1) := by decide +kernel
theorem dX10_wrong_28 : decode cX10_wrong 28 = .ok (.invokevirtual 68, 3) := by decide +kernel
theorem dX10_wrong_31 : decode cX10_wrong 31 = .ok (.ireturn, 1) := by decide +kernel
theorem dX10_wrong_32 : decode cX10_wrong 32 = .ok (.aload_n 0, 1) := by decide +kernel
theorem dX10_wrong_33 : decode cX10_wrong 33 = .ok (.getfield 40, 3) := by decide +kernel
theorem dX10_wrong_36 : decode cX10_wrong 36 = .ok (.aload_n 0, 1) := by decide +kernel
theorem dX10_wrong_37 : decode cX10_wrong 37 = .ok (.getfield 16, 3) := by decide +kernel
theorem dX10_wrong_40 : decode cX10_wrong 40 = .ok (.sipush 2000, 3) := by decide +kernel
theorem dX10_wrong_43 : decode cX10_wrong 43 = .ok (.iload_n 1, 1) := by decide +kernel
theorem dX10_wrong_44 : decode cX10_wrong 44 = .ok (.invokevirtual 163, 3) := by decide +kernel
theorem dX10_wrong_47 : decode cX10_wrong 47 = .ok (.aload_n 0, 1) := by decide +kernel
theorem dX10_wrong_48 : decode cX10_wrong 48 = .ok (.getfield 40, 3) := by decide +kernel
theorem dX10_wrong_51 : decode cX10_wrong 51 = .ok (.iload_n 2, 1) := by decide +kernel
theorem dX10_wrong_52 : decode cX10_wrong 52 = .ok (.iload_n 3, 1) := by decide +kernel
theorem dX10_wrong_53 : decode cX10_wrong 53 = .ok (.iload 4, 2) := by decide +kernel
theorem dX10_wrong_55 : decode cX10_wrong 55 = .ok (.iload 5, 2) := by decide +kernel
theorem dX10_wrong_57 : decode cX10_wrong 57 = .ok (.invokevirtual 167, 3) := by decide +kernel
theorem dX10_wrong_60 : decode cX10_wrong 60 = .ok (.aload_n 0, 1) := by decide +kernel
theorem dX10_wrong_61 : decode cX10_wrong 61 = .ok (.aload_n 0, 1) := by decide +kernel
theorem dX10_wrong_62 : decode cX10_wrong 62 = .ok (.getfield 40, 3) := by decide +kernel
theorem dX10_wrong_65 : decode cX10_wrong 65 = .ok (.getfield 178, 3) := by decide +kernel
theorem dX10_wrong_68 : decode cX10_wrong 68 = .ok (.invokevirtual 76, 3) := by decide +kernel
theorem dX10_wrong_71 : decode cX10_wrong 71 = .ok (.ireturn, 1) := by decide +kernel
theorem dX10_unlike_0 : decode cX10_unlike 0 = .ok (.aload_n 0, 1) := by decide +kernel
theorem dX10_unlike_1 : decode cX10_unlike 1 = .ok (.getfield 16, 3) := by decide +kernel
theorem dX10_unlike_4 : decode cX10_unlike 4 = .ok (.iload_n 1, 1) := by decide +kernel
theorem dX10_unlike_5 : decode cX10_unlike 5 = .ok (.invokevirtual 98, 3) := by decide +kernel
theorem dX10_unlike_8 : decode cX10_unlike 8 = .ok (.ifCond .ne 9, 3) := by decide +kernel
theorem dX10_unlike_11 : decode cX10_unlike 11 = .ok (.aload_n 0, 1) := by decide +kernel
theorem dX10_unlike_12 : decode cX10_unlike 12 = .ok (.iconst 1, 1) := by decide +kernel
theorem dX10_unlike_13 : decode cX10_unlike 13 = .ok (.invokevirtual 68, 3) := by decide +kernel
theorem dX10_unlike_16 : decode cX10_unlike 16 = .ok (.ireturn, 1) := by decide +kernel
theorem dX10_unlike_17 : decode cX10_unlike 17 = .ok (.aload_n 0, 1) := by decide +kernel
theorem dX10_unlike_18 : decode cX10_unlike 18 = .ok (.getfield 37, 3) := by decide +kernel
theorem dX10_unlike_21 : decode cX10_unlike 21 = .ok (.aload_n 0, 1) := by decide +kernel
theorem dX10_unlike_22 : decode cX10_unlike 22 = .ok (.getfield 16, 3) := by decide +kernel
theorem dX10_unlike_25 : decode cX10_unlike 25 = .ok (.sipush 2000, 3) := by decide +kernel
theorem dX10_unlike_28 : decode cX10_unlike 28 = .ok (.iconst (-1), 1) := by decide +kernel
theorem dX10_unlike_29 : decode cX10_unlike 29 = .ok (.invokevirtual 163, 3) := by decide +kernel
theorem dX10_unlike_32 : decode cX10_unlike 32 = .ok (.aload_n 0, 1) := by decide +kernel
theorem dX10_unlike_33 : decode cX10_unlike 33 = .ok (.getfield 37, 3) := by decide +kernel
theorem dX10_unlike_36 : decode cX10_unlike 36 = .ok (.iload_n 1, 1) := by decide +kernel
theorem dX10_unlike_37 : decode cX10_unlike 37 = .ok (.iload_n 2, 1) := by decide +kernel
theorem dX10_unlike_38 : decode cX10_unlike 38 = .ok (.iload_n 3, 1) := by decide +kernel
theorem dX10_unlike_39 : decode cX10_unlike 39 = .ok (.iload 4, 2) := by decide +kernel
theorem dX10_unlike_41 : decode cX10_unlike 41 = .ok (.invokevirtual 167, 3) := by decide +kernel
theorem dX10_unlike_44 : decode cX10_unlike 44 = .ok (.iconst 0, 1) := by decide +kernel
theorem dX10_unlike_45 : decode cX10_unlike 45 = .ok (.istore 5, 2) := by decide +kernel
theorem dX10_unlike_47 : decode cX10_unlike 47 = .ok (.iconst 0, 1) := by decide +kernel
theorem dX10_unlike_48 : decode cX10_unlike 48 = .ok (.istore 6, 2) := by decide +kernel
theorem dX10_unlike_50 : decode cX10_unlike 50 = .ok (.iload 6, 2) := by decide +kernel
theorem dX10_unlike_52 : decode cX10_unlike 52 = .ok (.iconst 4, 1) := by decide +kernel
theorem dX10_unlike_53 : decode cX10_unlike 53 = .ok (.if_icmp .ge 54, 3) := by decide +kernel
theorem dX10_unlike_56 : decode cX10_unlike 56 = .ok (.aload_n 0, 1) := by decide +kernel
theorem dX10_unlike_57 : decode cX10_unlike 57 = .ok (.getfield 40, 3) := by decide +kernel
theorem dX10_unlike_60 : decode cX10_unlike 60 = .ok (.aload_n 0, 1) := by decide +kernel
theorem dX10_unlike_61 : decode cX10_unlike 61 = .ok (.getfield 16, 3) := by decide +kernel
theorem dX10_unlike_64 : decode cX10_unlike 64 = .ok (.sipush 2000, 3) := by decide +kernel
theorem dX10_unlike_67 : decode cX10_unlike 67 = .ok (.iload 6, 2) := by decide +kernel
theorem dX10_unlike_69 : decode cX10_unlike 69 = .ok (.invokevirtual 163, 3) := by decide +kernel
theorem dX10_unlike_72 : decode cX10_unlike 72 = .ok (.aload_n 0, 1) := by decide +kernel
theorem dX10_unlike_73 : decode cX10_unlike 73 = .ok (.getfield 40, 3) := by decide +kernel
theorem dX10_unlike_76 : decode cX10_unlike 76 = .ok (.iload_n 1, 1) := by decide +kernel
theorem dX10_unlike_77 : decode cX10_unlike 77 = .ok (.iload_n 2, 1) := by decide +kernel
theorem dX10_unlike_78 : decode cX10_unlike 78 = .ok (.iload_n 3, 1) := by decide +kernel
theorem dX10_unlike_79 : decode cX10_unlike 79 = .ok (.iload 4, 2) := by decide +kernel
theorem dX10_unlike_81 : decode cX10_unlike 81 = .ok (.invokevirtual 167, 3) := by decide +kernel
theorem dX10_unlike_84 : decode cX10_unlike 84 = .ok (.aload_n 0, 1) := by decide +kernel
theorem dX10_unlike_85 : decode cX10_unlike 85 = .ok (.getfield 40, 3) := by decide +kernel
theorem dX10_unlike_88 : decode cX10_unlike 88 = .ok (.aload_n 0, 1) := by decide +kernel
theorem dX10_unlike_89 : decode cX10_unlike 89 = .ok (.getfield 37, 3) := by decide +kernel
theorem dX10_unlike_92 : decode cX10_unlike 92 = .ok (.invokevirtual 223, 3) := by decide +kernel
theorem dX10_unlike_95 : decode cX10_unlike 95 = .ok (.ifCond .ne 6, 3) := by decide +kernel
theorem dX10_unlike_98 : decode cX10_unlike 98 = .ok (.iinc 5 1, 3) := by decide +kernel
theorem dX10_unlike_101 : decode cX10_unlike 101 = .ok (.iinc 6 1, 3) := by decide +kernel
theorem dX10_unlike_104 : decode cX10_unlike 104 = .ok (.goto (-54), 3) := by decide +kernel
theorem dX10_unlike_107 : decode cX10_unlike 107 = .ok (.aload_n 0, 1) := by decide +kernel
theorem dX10_unlike_108 : decode cX10_unlike 108 = .ok (.iload 5, 2) := by decide +kernel
theorem dX10_unlike_110 : decode cX10_unlike 110 = .ok (.invokevirtual 76, 3) := by decide +kernel
theorem dX10_unlike_113 : decode cX10_unlike 113 = .ok (.ireturn, 1) := by decide +kernel
theorem dX10_order_0 : decode cX10_order 0 = .ok (.aload_n 0, 1) := by decide +kernel
theorem dX10_order_1 : decode cX10_order 1 = .ok (.getfield 16, 3) := by decide +kernel
theorem dX10_order_4 : decode cX10_order 4 = .ok (.getfield 89, 3) := by decide +kernel
theorem dX10_order_7 : decode cX10_order 7 = .ok (.ifCond .ne 6, 3) := by decide +kernel
theorem dX10_order_10 : decode cX10_order 10 = .ok (.bipush (-2), 2) := by decide +kernel
theorem dX10_order_12 : decode cX10_order 12 = .ok (.ireturn, 1) := by decide +kernel
theorem dX10_order_13 : decode cX10_order 13 = .ok (.aload_n 0, 1) := by decide +kernel
theorem dX10_order_14 : decode cX10_order 14 = .ok (.getfield 46, 3) := by decide +kernel
theorem dX10_order_17 : decode cX10_order 17 = .ok (.aload_n 0, 1) := by decide +kernel
theorem dX10_order_18 : decode cX10_order 18 = .ok (.getfield 16, 3) := by decide +kernel
theorem dX10_order_21 : decode cX10_order 21 = .ok (.invokevirtual 227, 3) := by decide +kernel
theorem dX10_order_24 : decode cX10_order 24 = .ok (.ireturn, 1) := by decide +kernel
theorem dX10_chapter_0 : decode cX10_chapter 0 = .ok (.aload_n 0, 1) := by decide +kernel
theorem dX10_chapter_1 : decode cX10_chapter 1 = .ok (.getfield 16, 3) := by decide +kernel
theorem dX10_chapter_4 : decode cX10_chapter 4 = .ok (.iload_n 1, 1) := by decide +kernel
theorem dX10_chapter_5 : decode cX10_chapter 5 = .ok (.invokevirtual 98, 3) := by decide +kernel
theorem dX10_chapter_8 : decode cX10_chapter 8 = .ok (.ifCond .ne 5, 3) := by decide +kernel
theorem dX10_chapter_11 : decode cX10_chapter 11 = .ok (.iconst (-1), 1) := by decide +kernel
theorem dX10_chapter_12 : decode cX10_chapter 12 = .ok (.ireturn, 1) := by decide +kernel
theorem dX10_chapter_13 : decode cX10_chapter 13 = .ok (.aload_n 0, 1) := by decide +kernel
theorem dX10_chapter_14 : decode cX10_chapter 14 = .ok (.getfield 46, 3) := by decide +kernel
theorem dX10_chapter_17 : decode cX10_chapter 17 = .ok (.aload_n 0, 1) := by decide +kernel
theorem dX10_chapter_18 : decode cX10_chapter 18 = .ok (.getfield 16, 3) := by decide +kernel
theorem dX10_chapter_21 : decode cX10_chapter 21 = .ok (.iload_n 1, 1) := by decide +kernel
theorem dX10_chapter_22 : decode cX10_chapter 22 = .ok (.invokevirtual 231, 3) := by decide +kernel
theorem dX10_chapter_25 : decode cX10_chapter 25 = .ok (.ireturn, 1) := by decide +kernel
theorem dX10_tell_0 : decode cX10_tell 0 = .ok (.aload_n 0, 1) := by decide +kernel
theorem dX10_tell_1 : decode cX10_tell 1 = .ok (.getfield 16, 3) := by decide +kernel
theorem dX10_tell_4 : decode cX10_tell 4 = .ok (.iload_n 1, 1) := by decide +kernel
theorem dX10_tell_5 : decode cX10_tell 5 = .ok (.invokevirtual 98, 3) := by decide +kernel
theorem dX10_tell_8 : decode cX10_tell 8 = .ok (.ifCond .ne 9, 3) := by decide +kernel
theorem dX10_tell_11 : decode cX10_tell 11 = .ok (.aload_n 0, 1) := by decide +kernel
theorem dX10_tell_12 : decode cX10_tell 12 = .ok (.iconst 1, 1) := by decide +kernel
theorem dX10_tell_13 : decode cX10_tell 13 = .ok (.invokevirtual 68, 3) := by decide +kernel
theorem dX10_tell_16 : decode cX10_tell 16 = .ok (.ireturn, 1) := by decide +kernel
theorem dX10_tell_17 : decode cX10_tell 17 = .ok (.aload_n 0, 1) := by decide +kernel
theorem dX10_tell_18 : decode cX10_tell 18 = .ok (.getfield 53, 3) := by decide +kernel
theorem dX10_tell_21 : decode cX10_tell 21 = .ok (.invokevirtual 235, 3) := by decide +kernel
theorem dX10_tell_24 : decode cX10_tell 24 = .ok (.ifCond .eq 9, 3) := by decide +kernel
theorem dX10_tell_27 : decode cX10_tell 27 = .ok (.aload_n 0, 1) := by decide +kernel
theorem dX10_tell_28 : decode cX10_tell 28 = .ok (.iconst 3, 1) := by decide +kernel
theorem dX10_tell_29 : decode cX10_tell 29 = .ok (.invokevirtual 68, 3) := by decide +kernel
theorem dX10_tell_32 : decode cX10_tell 32 = .ok (.ireturn, 1) := by decide +kernel
theorem dX10_tell_33 : decode cX10_tell 33 = .ok (.aload_n 0, 1) := by decide +kernel
theorem dX10_tell_34 : decode cX10_tell 34 = .ok (.getfield 40, 3) := by decide +kernel
theorem dX10_tell_37 : decode cX10_tell 37 = .ok (.aload_n 0, 1) := by decide +kernel
theorem dX10_tell_38 : decode cX10_tell 38 = .ok (.getfield 16, 3) := by decide +kernel
theorem dX10_tell_41 : decode cX10_tell 41 = .ok (.sipush 2000, 3) := by decide +kernel
theorem dX10_tell_44 : decode cX10_tell 44 = .ok (.iconst (-1), 1) := by decide +kernel
theorem dX10_tell_45 : decode cX10_tell 45 = .ok (.invokevirtual 163, 3) := by decide +kernel
theorem dX10_tell_48 : decode cX10_tell 48 = .ok (.aload_n 0, 1) := by decide +kernel
theorem dX10_tell_49 : decode cX10_tell 49 = .ok (.getfield 40, 3) := by decide +kernel
theorem dX10_tell_52 : decode cX10_tell 52 = .ok (.iload_n 1, 1) := by decide +kernel
theorem dX10_tell_53 : decode cX10_tell 53 = .ok (.iload_n 2, 1) := by decide +kernel
theorem dX10_tell_54 : decode cX10_tell 54 = .ok (.iload_n 3, 1) := by decide +kernel
theorem dX10_tell_55 : decode cX10_tell 55 = .ok (.iload 4, 2) := by decide +kernel
theorem dX10_tell_57 : decode cX10_tell 57 = .ok (.invokevirtual 167, 3) := by decide +kernel
theorem dX10_tell_60 : decode cX10_tell 60 = .ok (.aload_n 0, 1) := by decide +kernel
theorem dX10_tell_61 : decode cX10_tell 61 = .ok (.aload_n 0, 1) := by decide +kernel
theorem dX10_tell_62 : decode cX10_tell 62 = .ok (.getfield 53, 3) := by decide +kernel
theorem dX10_tell_65 : decode cX10_tell 65 = .ok (.aload_n 0, 1) := by decide +kernel
theorem dX10_tell_66 : decode cX10_tell 66 = .ok (.getfield 40, 3) := by decide +kernel
theorem dX10_tell_69 : decode cX10_tell 69 = .ok (.getfield 190, 3) := by decide +kernel
theorem dX10_tell_72 : decode cX10_tell 72 = .ok (.invokevirtual 239, 3) := by decide +kernel
theorem dX10_tell_75 : decode cX10_tell 75 = .ok (.invokevirtual 76, 3) := by decide +kernel
theorem dX10_tell_78 : decode cX10_tell 78 = .ok (.ireturn, 1) := by decide +kernel
theorem dX10_shown_0 : decode cX10_shown 0 = .ok (.aload_n 0, 1) := by decide +kernel
theorem dX10_shown_1 : decode cX10_shown 1 = .ok (.getfield 53, 3) := by decide +kernel
theorem dX10_shown_4 : decode cX10_shown 4 = .ok (.invokevirtual 242, 3) := by decide +kernel
theorem dX10_shown_7 : decode cX10_shown 7 = .ok (.invokestatic 194, 3) := by decide +kernel
theorem dX10_shown_10 : decode cX10_shown 10 = .ok (.ireturn, 1) := by decide +kernel
theorem dX10_fewest_0 : decode cX10_fewest 0 = .ok (.aload_n 0, 1) := by decide +kernel
theorem dX10_fewest_1 : decode cX10_fewest 1 = .ok (.getfield 53, 3) := by decide +kernel
theorem dX10_fewest_4 : decode cX10_fewest 4 = .ok (.invokevirtual 246, 3) := by decide +kernel
theorem dX10_fewest_7 : decode cX10_fewest 7 = .ok (.ireturn, 1) := by decide +kernel
theorem dX10_picked_0 : decode cX10_picked 0 = .ok (.aload_n 0, 1) := by decide +kernel
theorem dX10_picked_1 : decode cX10_picked 1 = .ok (.getfield 53, 3) := by decide +kernel
theorem dX10_picked_4 : decode cX10_picked 4 = .ok (.iload_n 1, 1) := by decide +kernel
theorem dX10_picked_5 : decode cX10_picked 5 = .ok (.invokevirtual 250, 3) := by decide +kernel
theorem dX10_picked_8 : decode cX10_picked 8 = .ok (.ireturn, 1) := by decide +kernel
theorem dX10_anew_0 : decode cX10_anew 0 = .ok (.aload_n 0, 1) := by decide +kernel
theorem dX10_anew_1 : decode cX10_anew 1 = .ok (.getfield 16, 3) := by decide +kernel
theorem dX10_anew_4 : decode cX10_anew 4 = .ok (.iload_n 1, 1) := by decide +kernel
theorem dX10_anew_5 : decode cX10_anew 5 = .ok (.invokevirtual 98, 3) := by decide +kernel
theorem dX10_anew_8 : decode cX10_anew 8 = .ok (.ifCond .ne 5, 3) := by decide +kernel
theorem dX10_anew_11 : decode cX10_anew 11 = .ok (.iconst (-1), 1) := by decide +kernel
theorem dX10_anew_12 : decode cX10_anew 12 = .ok (.ireturn, 1) := by decide +kernel
theorem dX10_anew_13 : decode cX10_anew 13 = .ok (.aload_n 0, 1) := by decide +kernel
theorem dX10_anew_14 : decode cX10_anew 14 = .ok (.getfield 60, 3) := by decide +kernel
theorem dX10_anew_17 : decode cX10_anew 17 = .ok (.iload_n 1, 1) := by decide +kernel
theorem dX10_anew_18 : decode cX10_anew 18 = .ok (.invokevirtual 253, 3) := by decide +kernel
theorem dX10_anew_21 : decode cX10_anew 21 = .ok (.ireturn, 1) := by decide +kernel
theorem dX10_gone_0 : decode cX10_gone 0 = .ok (.aload_n 0, 1) := by decide +kernel
theorem dX10_gone_1 : decode cX10_gone 1 = .ok (.getfield 60, 3) := by decide +kernel
theorem dX10_gone_4 : decode cX10_gone 4 = .ok (.getfield 256, 3) := by decide +kernel
theorem dX10_gone_7 : decode cX10_gone 7 = .ok (.ireturn, 1) := by decide +kernel
theorem dX10_count_0 : decode cX10_count 0 = .ok (.iload_n 1, 1) := by decide +kernel
theorem dX10_count_1 : decode cX10_count 1 = .ok (.tableswitch 60 0 3 #[31, 39, 47, 55], 31) := by decide +kernel
theorem dX10_count_32 : decode cX10_count 32 = .ok (.aload_n 0, 1) := by decide +kernel
theorem dX10_count_33 : decode cX10_count 33 = .ok (.getfield 16, 3) := by decide +kernel
theorem dX10_count_36 : decode cX10_count 36 = .ok (.getfield 89, 3) := by decide +kernel
theorem dX10_count_39 : decode cX10_count 39 = .ok (.ireturn, 1) := by decide +kernel
theorem dX10_count_40 : decode cX10_count 40 = .ok (.aload_n 0, 1) := by decide +kernel
theorem dX10_count_41 : decode cX10_count 41 = .ok (.getfield 16, 3) := by decide +kernel
theorem dX10_count_44 : decode cX10_count 44 = .ok (.getfield 259, 3) := by decide +kernel
theorem dX10_count_47 : decode cX10_count 47 = .ok (.ireturn, 1) := by decide +kernel
theorem dX10_count_48 : decode cX10_count 48 = .ok (.aload_n 0, 1) := by decide +kernel
theorem dX10_count_49 : decode cX10_count 49 = .ok (.getfield 53, 3) := by decide +kernel
theorem dX10_count_52 : decode cX10_count 52 = .ok (.getfield 260, 3) := by decide +kernel
theorem dX10_count_55 : decode cX10_count 55 = .ok (.ireturn, 1) := by decide +kernel
theorem dX10_count_56 : decode cX10_count 56 = .ok (.aload_n 0, 1) := by decide +kernel
theorem dX10_count_57 : decode cX10_count 57 = .ok (.getfield 64, 3) := by decide +kernel
theorem dX10_count_60 : decode cX10_count 60 = .ok (.ireturn, 1) := by decide +kernel
theorem dX10_count_61 : decode cX10_count 61 = .ok (.iconst (-1), 1) := by decide +kernel
theorem dX10_count_62 : decode cX10_count 62 = .ok (.ireturn, 1) := by decide +kernel
theorem dX10_trouble_0 : decode cX10_trouble 0 = .ok (.aload_n 0, 1) := by decide +kernel
theorem dX10_trouble_1 : decode cX10_trouble 1 = .ok (.getfield 92, 3) := by decide +kernel
theorem dX10_trouble_4 : decode cX10_trouble 4 = .ok (.ireturn, 1) := by decide +kernel
theorem dX10_refuse_0 : decode cX10_refuse 0 = .ok (.aload_n 0, 1) := by decide +kernel
theorem dX10_refuse_1 : decode cX10_refuse 1 = .ok (.iload_n 1, 1) := by decide +kernel
theorem dX10_refuse_2 : decode cX10_refuse 2 = .ok (.putfield 92, 3) := by decide +kernel
theorem dX10_refuse_5 : decode cX10_refuse 5 = .ok (.iconst (-1), 1) := by decide +kernel
theorem dX10_refuse_6 : decode cX10_refuse 6 = .ok (.ireturn, 1) := by decide +kernel
theorem dX10_accept_0 : decode cX10_accept 0 = .ok (.aload_n 0, 1) := by decide +kernel
theorem dX10_accept_1 : decode cX10_accept 1 = .ok (.iconst 0, 1) := by decide +kernel
theorem dX10_accept_2 : decode cX10_accept 2 = .ok (.putfield 92, 3) := by decide +kernel
theorem dX10_accept_5 : decode cX10_accept 5 = .ok (.iload_n 1, 1) := by decide +kernel
theorem dX10_accept_6 : decode cX10_accept 6 = .ok (.ireturn, 1) := by decide +kernel
theorem dX10_feedNumber_0 : decode cX10_feedNumber 0 = .ok (.bipush 24, 2) := by decide +kernel
theorem dX10_feedNumber_2 : decode cX10_feedNumber 2 = .ok (.istore_n 2, 1) := by decide +kernel
theorem dX10_feedNumber_3 : decode cX10_feedNumber 3 = .ok (.iload_n 2, 1) := by decide +kernel
theorem dX10_feedNumber_4 : decode cX10_feedNumber 4 = .ok (.ifCond .lt 51, 3) := by decide +kernel
theorem dX10_feedNumber_7 : decode cX10_feedNumber 7 = .ok (.aload_n 0, 1) := by decide +kernel
theorem dX10_feedNumber_8 : decode cX10_feedNumber 8 = .ok (.getfield 64, 3) := by decide +kernel
theorem dX10_feedNumber_11 : decode cX10_feedNumber 11 = .ok (.ifCond .lt 38, 3) := by decide +kernel
theorem dX10_feedNumber_14 : decode cX10_feedNumber 14 = .ok (.aload_n 0, 1) := by decide +kernel
theorem dX10_feedNumber_15 : decode cX10_feedNumber 15 = .ok (.getfield 64, 3) := by decide +kernel
theorem dX10_feedNumber_18 : decode cX10_feedNumber 18 = .ok (.aload_n 0, 1) := by decide +kernel
theorem dX10_feedNumber_19 : decode cX10_feedNumber 19 = .ok (.getfield 9, 3) := by decide +kernel
theorem dX10_feedNumber_22 : decode cX10_feedNumber 22 = .ok (.arraylength, 1) := by decide +kernel
theorem dX10_feedNumber_23 : decode cX10_feedNumber 23 = .ok (.if_icmp .ge 26, 3) := by decide +kernel
theorem dX10_feedNumber_26 : decode cX10_feedNumber 26 = .ok (.aload_n 0, 1) := by decide +kernel
theorem dX10_feedNumber_27 : decode cX10_feedNumber 27 = .ok (.getfield 9, 3) := by decide +kernel
theorem dX10_feedNumber_30 : decode cX10_feedNumber 30 = .ok (.aload_n 0, 1) := by decide +kernel
theorem dX10_feedNumber_31 : decode cX10_feedNumber 31 = .ok (.getfield 64, 3) := by decide +kernel
theorem dX10_feedNumber_34 : decode cX10_feedNumber 34 = .ok (.iload_n 1, 1) := by decide +kernel
theorem dX10_feedNumber_35 : decode cX10_feedNumber 35 = .ok (.iload_n 2, 1) := by decide +kernel
theorem dX10_feedNumber_36 : decode cX10_feedNumber 36 = .ok (.ishr, 1) := by decide +kernel
theorem dX10_feedNumber_37 : decode cX10_feedNumber 37 = .ok (.i2b, 1) := by decide +kernel
theorem dX10_feedNumber_38 : decode cX10_feedNumber 38 = .ok (.bastore, 1) := by decide +kernel
theorem dX10_feedNumber_39 : decode cX10_feedNumber 39 = .ok (.aload_n 0, 1) := by decide +kernel
theorem dX10_feedNumber_40 : decode cX10_feedNumber 40 = .ok (.dup, 1) := by decide +kernel
theorem dX10_feedNumber_41 : decode cX10_feedNumber 41 = .ok (.getfield 64, 3) := by decide +kernel
theorem dX10_feedNumber_44 : decode cX10_feedNumber 44 = .ok (.iconst 1, 1) := by decide +kernel
theorem dX10_feedNumber_45 : decode cX10_feedNumber 45 = .ok (.iadd, 1) := by decide +kernel
theorem dX10_feedNumber_46 : decode cX10_feedNumber 46 = .ok (.putfield 64, 3) := by decide +kernel
theorem dX10_feedNumber_49 : decode cX10_feedNumber 49 = .ok (.iinc 2 (-8), 3) := by decide +kernel
theorem dX10_feedNumber_52 : decode cX10_feedNumber 52 = .ok (.goto (-49), 3) := by decide +kernel
theorem dX10_feedNumber_55 : decode cX10_feedNumber 55 = .ok (.return_, 1) := by decide +kernel
theorem dX11_init_0 : decode cX11_init 0 = .ok (.aload_n 0, 1) := by decide +kernel
theorem dX11_init_1 : decode cX11_init 1 = .ok (.invokespecial 3, 3) := by decide +kernel
theorem dX11_init_4 : decode cX11_init 4 = .ok (.aload_n 0, 1) := by decide +kernel
theorem dX11_init_5 : decode cX11_init 5 = .ok (.bipush 10, 2) := by decide +kernel
theorem dX11_init_7 : decode cX11_init 7 = .ok (.newarray .long, 2) := by decide +kernel
theorem dX11_init_9 : decode cX11_init 9 = .ok (.putfield 9, 3) := by decide +kernel
theorem dX11_init_12 : decode cX11_init 12 = .ok (.aload_n 0, 1) := by decide +kernel
theorem dX11_init_13 : decode cX11_init 13 = .ok (.bipush 10, 2) := by decide +kernel
theorem dX11_init_15 : decode cX11_init 15 = .ok (.newarray .int, 2) := by decide +kernel
theorem dX11_init_17 : decode cX11_init 17 = .ok (.putfield 15, 3) := by decide +kernel
theorem dX11_init_20 : decode cX11_init 20 = .ok (.aload_n 0, 1) := by decide +kernel
theorem dX11_init_21 : decode cX11_init 21 = .ok (.bipush 10, 2) := by decide +kernel
theorem dX11_init_23 : decode cX11_init 23 = .ok (.newarray .int, 2) := by decide +kernel
theorem dX11_init_25 : decode cX11_init 25 = .ok (.putfield 19, 3) := by decide +kernel
theorem dX11_init_28 : decode cX11_init 28 = .ok (.aload_n 0, 1) := by decide +kernel
theorem dX11_init_29 : decode cX11_init 29 = .ok (.bipush 10, 2) := by decide +kernel
theorem dX11_init_31 : decode cX11_init 31 = .ok (.newarray .int, 2) := by decide +kernel
theorem dX11_init_33 : decode cX11_init 33 = .ok (.putfield 22, 3) := by decide +kernel
theorem dX11_init_36 : decode cX11_init 36 = .ok (.aload_n 0, 1) := by decide +kernel
theorem dX11_init_37 : decode cX11_init 37 = .ok (.bipush 10, 2) := by decide +kernel
theorem dX11_init_39 : decode cX11_init 39 = .ok (.newarray .int, 2) := by decide +kernel
theorem dX11_init_41 : decode cX11_init 41 = .ok (.putfield 25, 3) := by decide +kernel
theorem dX11_init_44 : decode cX11_init 44 = .ok (.aload_n 0, 1) := by decide +kernel
theorem dX11_init_45 : decode cX11_init 45 = .ok (.bipush 10, 2) := by decide +kernel
theorem dX11_init_47 : decode cX11_init 47 = .ok (.newarray .int, 2) := by decide +kernel
theorem dX11_init_49 : decode cX11_init 49 = .ok (.putfield 28, 3) := by decide +kernel
theorem dX11_init_52 : decode cX11_init 52 = .ok (.aload_n 0, 1) := by decide +kernel
theorem dX11_init_53 : decode cX11_init 53 = .ok (.bipush 10, 2) := by decide +kernel
theorem dX11_init_55 : decode cX11_init 55 = .ok (.newarray .int, 2) := by decide +kernel
theorem dX11_init_57 : decode cX11_init 57 = .ok (.putfield 31, 3) := by decide +kernel
theorem dX11_init_60 : decode cX11_init 60 = .ok (.aload_n 0, 1) := by decide +kernel
theorem dX11_init_61 : decode cX11_init 61 = .ok (.bipush 10, 2) := by decide +kernel
theorem dX11_init_63 : decode cX11_init 63 = .ok (.newarray .int, 2) := by decide +kernel
theorem dX11_init_65 : decode cX11_init 65 = .ok (.putfield 34, 3) := by decide +kernel
theorem dX11_init_68 : decode cX11_init 68 = .ok (.aload_n 0, 1) := by decide +kernel
theorem dX11_init_69 : decode cX11_init 69 = .ok (.bipush 30, 2) := by decide +kernel
theorem dX11_init_71 : decode cX11_init 71 = .ok (.newarray .int, 2) := by decide +kernel
theorem dX11_init_73 : decode cX11_init 73 = .ok (.putfield 37, 3) := by decide +kernel
theorem dX11_init_76 : decode cX11_init 76 = .ok (.aload_n 0, 1) := by decide +kernel
theorem dX11_init_77 : decode cX11_init 77 = .ok (.bipush 60, 2) := by decide +kernel
theorem dX11_init_79 : decode cX11_init 79 = .ok (.newarray .int, 2) := by decide +kernel
theorem dX11_init_81 : decode cX11_init 81 = .ok (.putfield 40, 3) := by decide +kernel
theorem dX11_init_84 : decode cX11_init 84 = .ok (.aload_n 0, 1) := by decide +kernel
theorem dX11_init_85 : decode cX11_init 85 = .ok (.bipush 60, 2) := by decide +kernel
theorem dX11_init_87 : decode cX11_init 87 = .ok (.newarray .int, 2) := by decide +kernel
theorem dX11_init_89 : decode cX11_init 89 = .ok (.putfield 43, 3) := by decide +kernel
theorem dX11_init_92 : decode cX11_init 92 = .ok (.aload_n 0, 1) := by decide +kernel
theorem dX11_init_93 : decode cX11_init 93 = .ok (.bipush 60, 2) := by decide +kernel
theorem dX11_init_95 : decode cX11_init 95 = .ok (.newarray .int, 2) := by decide +kernel
theorem dX11_init_97 : decode cX11_init 97 = .ok (.putfield 46, 3) := by decide +kernel
theorem dX11_init_100 : decode cX11_init 100 = .ok (.aload_n 0, 1) := by decide +kernel
theorem dX11_init_101 : decode cX11_init 101 = .ok (.bipush 60, 2) := by decide +kernel
theorem dX11_init_103 : decode cX11_init 103 = .ok (.newarray .int, 2) := by decide +kernel
theorem dX11_init_105 : decode cX11_init 105 = .ok (.putfield 49, 3) := by decide +kernel
theorem dX11_init_108 : decode cX11_init 108 = .ok (.aload_n 0, 1) := by decide +kernel
theorem dX11_init_109 : decode cX11_init 109 = .ok (.bipush 60, 2) := by decide +kernel
theorem dX11_init_111 : decode cX11_init 111 = .ok (.newarray .int, 2) := by decide +kernel
theorem dX11_init_113 : decode cX11_init 113 = .ok (.putfield 52, 3) := by decide +kernel
theorem dX11_init_116 : decode cX11_init 116 = .ok (.aload_n 0, 1) := by decide +kernel
theorem dX11_init_117 : decode cX11_init 117 = .ok (.bipush 60, 2) := by decide +kernel
theorem dX11_init_119 : decode cX11_init 119 = .ok (.newarray .int, 2) := by decide +kernel
theorem dX11_init_121 : decode cX11_init 121 = .ok (.putfield 55, 3) := by decide +kernel
theorem dX11_init_124 : decode cX11_init 124 = .ok (.aload_n 0, 1) := by decide +kernel
theorem dX11_init_125 : decode cX11_init 125 = .ok (.bipush 60, 2) := by decide +kernel
theorem dX11_init_127 : decode cX11_init 127 = .ok (.newarray .int, 2) := by decide +kernel
theorem dX11_init_129 : decode cX11_init 129 = .ok (.putfield 58, 3) := by decide +kernel
theorem dX11_init_132 : decode cX11_init 132 = .ok (.aload_n 0, 1) := by decide +kernel
theorem dX11_init_133 : decode cX11_init 133 = .ok (.bipush 60, 2) := by decide +kernel
theorem dX11_init_135 : decode cX11_init 135 = .ok (.newarray .int, 2) := by decide +kernel
theorem dX11_init_137 : decode cX11_init 137 = .ok (.putfield 61, 3) := by decide +kernel
theorem dX11_init_140 : decode cX11_init 140 = .ok (.aload_n 0, 1) := by decide +kernel
theorem dX11_init_141 : decode cX11_init 141 = .ok (.bipush 60, 2) := by decide +kernel
theorem dX11_init_143 : decode cX11_init 143 = .ok (.newarray .int, 2) := by decide +kernel
theorem dX11_init_145 : decode cX11_init 145 = .ok (.putfield 64, 3) := by decide +kernel
theorem dX11_init_148 : decode cX11_init 148 = .ok (.aload_n 0, 1) := by decide +kernel
theorem dX11_init_149 : decode cX11_init 149 = .ok (.bipush 60, 2) := by decide +kernel
theorem dX11_init_151 : decode cX11_init 151 = .ok (.newarray .int, 2) := by decide +kernel
theorem dX11_init_153 : decode cX11_init 153 = .ok (.putfield 67, 3) := by decide +kernel
theorem dX11_init_156 : decode cX11_init 156 = .ok (.aload_n 0, 1) := by decide +kernel
theorem dX11_init_157 : decode cX11_init 157 = .ok (.bipush 60, 2) := by decide +kernel
theorem dX11_init_159 : decode cX11_init 159 = .ok (.newarray .int, 2) := by decide +kernel
theorem dX11_init_161 : decode cX11_init 161 = .ok (.putfield 70, 3) := by decide +kernel
theorem dX11_init_164 : decode cX11_init 164 = .ok (.aload_n 0, 1) := by decide +kernel
theorem dX11_init_165 : decode cX11_init 165 = .ok (.sipush 620, 3) := by decide +kernel
theorem dX11_init_168 : decode cX11_init 168 = .ok (.newarray .int, 2) := by decide +kernel
theorem dX11_init_170 : decode cX11_init 170 = .ok (.putfield 73, 3) := by decide +kernel
theorem dX11_init_173 : decode cX11_init 173 = .ok (.aload_n 0, 1) := by decide +kernel
theorem dX11_init_174 : decode cX11_init 174 = .ok (.sipush 620, 3) := by decide +kernel
theorem dX11_init_177 : decode cX11_init 177 = .ok (.newarray .int, 2) := by decide +kernel
theorem dX11_init_179 : decode cX11_init 179 = .ok (.putfield 76, 3) := by decide +kernel
theorem dX11_init_182 : decode cX11_init 182 = .ok (.aload_n 0, 1) := by decide +kernel
theorem dX11_init_183 : decode cX11_init 183 = .ok (.sipush 620, 3) := by decide +kernel
theorem dX11_init_186 : decode cX11_init 186 = .ok (.newarray .int, 2) := by decide +kernel
theorem dX11_init_188 : decode cX11_init 188 = .ok (.putfield 79, 3) := by decide +kernel
theorem dX11_init_191 : decode cX11_init 191 = .ok (.aload_n 0, 1) := by decide +kernel
theorem dX11_init_192 : decode cX11_init 192 = .ok (.sipush 620, 3) := by decide +kernel
theorem dX11_init_195 : decode cX11_init 195 = .ok (.newarray .int, 2) := by decide +kernel
theorem dX11_init_197 : decode cX11_init 197 = .ok (.putfield 82, 3) := by decide +kernel
theorem dX11_init_200 : decode cX11_init 200 = .ok (.aload_n 0, 1) := by decide +kernel
theorem dX11_init_201 : decode cX11_init 201 = .ok (.sipush 620, 3) := by decide +kernel
theorem dX11_init_204 : decode cX11_init 204 = .ok (.newarray .long, 2) := by decide +kernel
theorem dX11_init_206 : decode cX11_init 206 = .ok (.putfield 85, 3) := by decide +kernel
theorem dX11_init_209 : decode cX11_init 209 = .ok (.aload_n 0, 1) := by decide +kernel
theorem dX11_init_210 : decode cX11_init 210 = .ok (.sipush 1201, 3) := by decide +kernel
theorem dX11_init_213 : decode cX11_init 213 = .ok (.newarray .byte, 2) := by decide +kernel
theorem dX11_init_215 : decode cX11_init 215 = .ok (.putfield 88, 3) := by decide +kernel
theorem dX11_init_218 : decode cX11_init 218 = .ok (.return_, 1) := by decide +kernel
theorem dX12_init_0 : decode cX12_init 0 = .ok (.aload_n 0, 1) := by decide +kernel
theorem dX12_init_1 : decode cX12_init 1 = .ok (.invokespecial 3, 3) := by decide +kernel
theorem dX12_init_4 : decode cX12_init 4 = .ok (.aload_n 0, 1) := by decide +kernel
theorem dX12_init_5 : decode cX12_init 5 = .ok (.bipush 60, 2) := by decide +kernel
theorem dX12_init_7 : decode cX12_init 7 = .ok (.newarray .int, 2) := by decide +kernel
theorem dX12_init_9 : decode cX12_init 9 = .ok (.putfield 9, 3) := by decide +kernel
theorem dX12_init_12 : decode cX12_init 12 = .ok (.aload_n 0, 1) := by decide +kernel
theorem dX12_init_13 : decode cX12_init 13 = .ok (.sipush 1600, 3) := by decide +kernel
theorem dX12_init_16 : decode cX12_init 16 = .ok (.newarray .int, 2) := by decide +kernel
theorem dX12_init_18 : decode cX12_init 18 = .ok (.putfield 15, 3) := by decide +kernel
theorem dX12_init_21 : decode cX12_init 21 = .ok (.aload_n 0, 1) := by decide +kernel
theorem dX12_init_22 : decode cX12_init 22 = .ok (.bipush 64, 2) := by decide +kernel
theorem dX12_init_24 : decode cX12_init 24 = .ok (.newarray .int, 2) := by decide +kernel
theorem dX12_init_26 : decode cX12_init 26 = .ok (.putfield 18, 3) := by decide +kernel
theorem dX12_init_29 : decode cX12_init 29 = .ok (.return_, 1) := by decide +kernel
theorem dX13_init_0 : decode cX13_init 0 = .ok (.aload_n 0, 1) := by decide +kernel
theorem dX13_init_1 : decode cX13_init 1 = .ok (.aconst_null, 1) := by decide +kernel
theorem dX13_init_2 : decode cX13_init 2 = .ok (.aconst_null, 1) := by decide +kernel
theorem dX13_init_3 : decode cX13_init 3 = .ok (.iconst 0, 1) := by decide +kernel
theorem dX13_init_4 : decode cX13_init 4 = .ok (.iconst 0, 1) := by decide +kernel
theorem dX13_init_5 : decode cX13_init 5 = .ok (.invokespecial 1, 3) := by decide +kernel
theorem dX13_init_8 : decode cX13_init 8 = .ok (.return_, 1) := by decide +kernel
theorem dX14_init_0 : decode cX14_init 0 = .ok (.aload_n 0, 1) := by decide +kernel
theorem dX14_init_1 : decode cX14_init 1 = .ok (.invokespecial 1, 3) := by decide +kernel
theorem dX14_init_4 : decode cX14_init 4 = .ok (.aload_n 0, 1) := by decide +kernel
theorem dX14_init_5 : decode cX14_init 5 = .ok (.iconst (-1), 1) := by decide +kernel
theorem dX14_init_6 : decode cX14_init 6 = .ok (.putfield 9, 3) := by decide +kernel
theorem dX14_init_9 : decode cX14_init 9 = .ok (.aload_n 0, 1) := by decide +kernel
theorem dX14_init_10 : decode cX14_init 10 = .ok (.new 13, 3) := by decide +kernel
theorem dX14_init_13 : decode cX14_init 13 = .ok (.dup, 1) := by decide +kernel
theorem dX14_init_14 : decode cX14_init 14 = .ok (.invokespecial 15, 3) := by decide +kernel
theorem dX14_init_17 : decode cX14_init 17 = .ok (.putfield 16, 3) := by decide +kernel
theorem dX14_init_20 : decode cX14_init 20 = .ok (.aload_n 0, 1) := by decide +kernel
theorem dX14_init_21 : decode cX14_init 21 = .ok (.new 13, 3) := by decide +kernel
theorem dX14_init_24 : decode cX14_init 24 = .ok (.dup, 1) := by decide +kernel
theorem dX14_init_25 : decode cX14_init 25 = .ok (.invokespecial 15, 3) := by decide +kernel
theorem dX14_init_28 : decode cX14_init 28 = .ok (.putfield 20, 3) := by decide +kernel
theorem dX14_init_31 : decode cX14_init 31 = .ok (.aload_n 0, 1) := by decide +kernel
theorem dX14_init_32 : decode cX14_init 32 = .ok (.new 13, 3) := by decide +kernel
theorem dX14_init_35 : decode cX14_init 35 = .ok (.dup, 1) := by decide +kernel
theorem dX14_init_36 : decode cX14_init 36 = .ok (.invokespecial 15, 3) := by decide +kernel
theorem dX14_init_39 : decode cX14_init 39 = .ok (.putfield 23, 3) := by decide +kernel
theorem dX14_init_42 : decode cX14_init 42 = .ok (.aload_n 0, 1) := by decide +kernel
theorem dX14_init_43 : decode cX14_init 43 = .ok (.new 26, 3) := by decide +kernel
theorem dX14_init_46 : decode cX14_init 46 = .ok (.dup, 1) := by decide +kernel
theorem dX14_init_47 : decode cX14_init 47 = .ok (.invokespecial 28, 3) := by decide +kernel
theorem dX14_init_50 : decode cX14_init 50 = .ok (.putfield 29, 3) := by decide +kernel
theorem dX14_init_53 : decode cX14_init 53 = .ok (.aload_n 0, 1) := by decide +kernel
theorem dX14_init_54 : decode cX14_init 54 = .ok (.sipush 600, 3) := by decide +kernel
theorem dX14_init_57 : decode cX14_init 57 = .ok (.newarray .byte, 2) := by decide +kernel
theorem dX14_init_59 : decode cX14_init 59 = .ok (.putfield 33, 3) := by decide +kernel
theorem dX14_init_62 : decode cX14_init 62 = .ok (.aload_n 0, 1) := by decide +kernel
theorem dX14_init_63 : decode cX14_init 63 = .ok (.new 37, 3) := by decide +kernel
theorem dX14_init_66 : decode cX14_init 66 = .ok (.dup, 1) := by decide +kernel
theorem dX14_init_67 : decode cX14_init 67 = .ok (.invokespecial 39, 3) := by decide +kernel
theorem dX14_init_70 : decode cX14_init 70 = .ok (.putfield 40, 3) := by decide +kernel
theorem dX14_init_73 : decode cX14_init 73 = .ok (.aload_n 0, 1) := by decide +kernel
theorem dX14_init_74 : decode cX14_init 74 = .ok (.new 37, 3) := by decide +kernel
theorem dX14_init_77 : decode cX14_init 77 = .ok (.dup, 1) := by decide +kernel
theorem dX14_init_78 : decode cX14_init 78 = .ok (.invokespecial 39, 3) := by decide +kernel
theorem dX14_init_81 : decode cX14_init 81 = .ok (.putfield 44, 3) := by decide +kernel
theorem dX14_init_84 : decode cX14_init 84 = .ok (.aload_n 0, 1) := by decide +kernel
theorem dX14_init_85 : decode cX14_init 85 = .ok (.sipush 2000, 3) := by decide +kernel
theorem dX14_init_88 : decode cX14_init 88 = .ok (.newarray .int, 2) := by decide +kernel
theorem dX14_init_90 : decode cX14_init 90 = .ok (.putfield 47, 3) := by decide +kernel
theorem dX14_init_93 : decode cX14_init 93 = .ok (.aload_n 0, 1) := by decide +kernel
theorem dX14_init_94 : decode cX14_init 94 = .ok (.bipush 60, 2) := by decide +kernel
theorem dX14_init_96 : decode cX14_init 96 = .ok (.newarray .int, 2) := by decide +kernel
theorem dX14_init_98 : decode cX14_init 98 = .ok (.putfield 51, 3) := by decide +kernel
theorem dX14_init_101 : decode cX14_init 101 = .ok (.aload_n 0, 1) := by decide +kernel
theorem dX14_init_102 : decode cX14_init 102 = .ok (.sipush 1024, 3) := by decide +kernel
theorem dX14_init_105 : decode cX14_init 105 = .ok (.newarray .int, 2) := by decide +kernel
theorem dX14_init_107 : decode cX14_init 107 = .ok (.putfield 54, 3) := by decide +kernel
theorem dX14_init_110 : decode cX14_init 110 = .ok (.aload_n 0, 1) := by decide +kernel
theorem dX14_init_111 : decode cX14_init 111 = .ok (.bipush 12, 2) := by decide +kernel
theorem dX14_init_113 : decode cX14_init 113 = .ok (.newarray .int, 2) := by decide +kernel
theorem dX14_init_115 : decode cX14_init 115 = .ok (.putfield 57, 3) := by decide +kernel
theorem dX14_init_118 : decode cX14_init 118 = .ok (.aload_n 0, 1) := by decide +kernel
theorem dX14_init_119 : decode cX14_init 119 = .ok (.bipush 12, 2) := by decide +kernel
theorem dX14_init_121 : decode cX14_init 121 = .ok (.newarray .int, 2) := by decide +kernel
theorem dX14_init_123 : decode cX14_init 123 = .ok (.putfield 60, 3) := by decide +kernel
theorem dX14_init_126 : decode cX14_init 126 = .ok (.aload_n 0, 1) := by decide +kernel
theorem dX14_init_127 : decode cX14_init 127 = .ok (.bipush 12, 2) := by decide +kernel
theorem dX14_init_129 : decode cX14_init 129 = .ok (.newarray .int, 2) := by decide +kernel
theorem dX14_init_131 : decode cX14_init 131 = .ok (.putfield 63, 3) := by decide +kernel
theorem dX14_init_134 : decode cX14_init 134 = .ok (.aload_n 0, 1) := by decide +kernel
theorem dX14_init_135 : decode cX14_init 135 = .ok (.bipush 12, 2) := by decide +kernel
theorem dX14_init_137 : decode cX14_init 137 = .ok (.newarray .int, 2) := by decide +kernel
theorem dX14_init_139 : decode cX14_init 139 = .ok (.putfield 66, 3) := by decide +kernel
theorem dX14_init_142 : decode cX14_init 142 = .ok (.aload_n 0, 1) := by decide +kernel
theorem dX14_init_143 : decode cX14_init 143 = .ok (.bipush 12, 2) := by decide +kernel
theorem dX14_init_145 : decode cX14_init 145 = .ok (.newarray .int, 2) := by decide +kernel
theorem dX14_init_147 : decode cX14_init 147 = .ok (.putfield 69, 3) := by decide +kernel
theorem dX14_init_150 : decode cX14_init 150 = .ok (.aload_n 0, 1) := by decide +kernel
theorem dX14_init_151 : decode cX14_init 151 = .ok (.bipush 12, 2) := by decide +kernel
theorem dX14_init_153 : decode cX14_init 153 = .ok (.newarray .long, 2) := by decide +kernel
theorem dX14_init_155 : decode cX14_init 155 = .ok (.putfield 72, 3) := by decide +kernel
theorem dX14_init_158 : decode cX14_init 158 = .ok (.return_, 1) := by decide +kernel
theorem dX14_thrown_0 : decode cX14_thrown 0 = .ok (.aload_n 0, 1) := by decide +kernel
theorem dX14_thrown_1 : decode cX14_thrown 1 = .ok (.getfield 76, 3) := by decide +kernel
theorem dX14_thrown_4 : decode cX14_thrown 4 = .ok (.ireturn, 1) := by decide +kernel
theorem dX14_refused_0 : decode cX14_refused 0 = .ok (.aload_n 0, 1) := by decide +kernel
theorem dX14_refused_1 : decode cX14_refused 1 = .ok (.iload_n 1, 1) := by decide +kernel
theorem dX14_refused_2 : decode cX14_refused 2 = .ok (.putfield 79, 3) := by decide +kernel
theorem dX14_refused_5 : decode cX14_refused 5 = .ok (.aload_n 0, 1) := by decide +kernel
theorem dX14_refused_6 : decode cX14_refused 6 = .ok (.iconst (-1), 1) := by decide +kernel
theorem dX14_refused_7 : decode cX14_refused 7 = .ok (.putfield 9, 3) := by decide +kernel
theorem dX14_refused_10 : decode cX14_refused 10 = .ok (.iconst (-1), 1) := by decide +kernel
theorem dX14_refused_11 : decode cX14_refused 11 = .ok (.ireturn, 1) := by decide +kernel
theorem dX14_done_0 : decode cX14_done 0 = .ok (.aload_n 0, 1) := by decide +kernel
theorem dX14_done_1 : decode cX14_done 1 = .ok (.iconst 0, 1) := by decide +kernel
theorem dX14_done_2 : decode cX14_done 2 = .ok (.putfield 79, 3) := by decide +kernel
theorem dX14_done_5 : decode cX14_done 5 = .ok (.aload_n 0, 1) := by decide +kernel
theorem dX14_done_6 : decode cX14_done 6 = .ok (.iconst (-1), 1) := by decide +kernel
theorem dX14_done_7 : decode cX14_done 7 = .ok (.putfield 9, 3) := by decide +kernel
theorem dX14_done_10 : decode cX14_done 10 = .ok (.iload_n 1, 1) := by decide +kernel
theorem dX14_done_11 : decode cX14_done 11 = .ok (.ireturn, 1) := by decide +kernel
theorem dX14_stop_0 : decode cX14_stop 0 = .ok (.aload_n 0, 1) := by decide +kernel
theorem dX14_stop_1 : decode cX14_stop 1 = .ok (.getfield 29, 3) := by decide +kernel
theorem dX14_stop_4 : decode cX14_stop 4 = .ok (.iload_n 1, 1) := by decide +kernel
theorem dX14_stop_5 : decode cX14_stop 5 = .ok (.putfield 82, 3) := by decide +kernel
theorem dX14_stop_8 : decode cX14_stop 8 = .ok (.aload_n 0, 1) := by decide +kernel
theorem dX14_stop_9 : decode cX14_stop 9 = .ok (.getfield 29, 3) := by decide +kernel
theorem dX14_stop_12 : decode cX14_stop 12 = .ok (.iload_n 2, 1) := by decide +kernel
theorem dX14_stop_13 : decode cX14_stop 13 = .ok (.putfield 85, 3) := by decide +kernel
theorem dX14_stop_16 : decode cX14_stop 16 = .ok (.aload_n 0, 1) := by decide +kernel
theorem dX14_stop_17 : decode cX14_stop 17 = .ok (.getfield 29, 3) := by decide +kernel
theorem dX14_stop_20 : decode cX14_stop 20 = .ok (.areturn, 1) := by decide +kernel
theorem dX14_byteAt_0 : decode cX14_byteAt 0 = .ok (.iload_n 1, 1) := by decide +kernel
theorem dX14_byteAt_1 : decode cX14_byteAt 1 = .ok (.aload_n 0, 1) := by decide +kernel
theorem dX14_byteAt_2 : decode cX14_byteAt 2 = .ok (.getfield 88, 3) := by decide +kernel
theorem dX14_byteAt_5 : decode cX14_byteAt 5 = .ok (.if_icmp .ge 16, 3) := by decide +kernel
theorem dX14_byteAt_8 : decode cX14_byteAt 8 = .ok (.aload_n 0, 1) := by decide +kernel
theorem dX14_byteAt_9 : decode cX14_byteAt 9 = .ok (.getfield 33, 3) := by decide +kernel
theorem dX14_byteAt_12 : decode cX14_byteAt 12 = .ok (.iload_n 1, 1) := by decide +kernel
theorem dX14_byteAt_13 : decode cX14_byteAt 13 = .ok (.baload, 1) := by decide +kernel
theorem dX14_byteAt_14 : decode cX14_byteAt 14 = .ok (.sipush 255, 3) := by decide +kernel
theorem dX14_byteAt_17 : decode cX14_byteAt 17 = .ok (.iand, 1) := by decide +kernel
theorem dX14_byteAt_18 : decode cX14_byteAt 18 = .ok (.goto 4, 3) := by decide +kernel
theorem dX14_byteAt_21 : decode cX14_byteAt 21 = .ok (.iconst (-1), 1) := by decide +kernel
theorem dX14_byteAt_22 : decode cX14_byteAt 22 = .ok (.ireturn, 1) := by decide +kernel
theorem dX14_next_0 : decode cX14_next 0 = .ok (.aload_n 0, 1) := by decide +kernel
theorem dX14_next_1 : decode cX14_next 1 = .ok (.aload_n 0, 1) := by decide +kernel
theorem dX14_next_2 : decode cX14_next 2 = .ok (.getfield 103, 3) := by decide +kernel
theorem dX14_next_5 : decode cX14_next 5 = .ok (.invokevirtual 106, 3) := by decide +kernel
theorem dX14_next_8 : decode cX14_next 8 = .ok (.bipush 32, 2) := by decide +kernel
theorem dX14_next_10 : decode cX14_next 10 = .ok (.if_icmp .eq 16, 3) := by decide +kernel
theorem dX14_next_13 : decode cX14_next 13 = .ok (.aload_n 0, 1) := by decide +kernel
theorem dX14_next_14 : decode cX14_next 14 = .ok (.aload_n 0, 1) := by decide +kernel
theorem dX14_next_15 : decode cX14_next 15 = .ok (.getfield 103, 3) := by decide +kernel
theorem dX14_next_18 : decode cX14_next 18 = .ok (.invokevirtual 106, 3) := by decide +kernel
theorem dX14_next_21 : decode cX14_next 21 = .ok (.bipush 10, 2) := by decide +kernel
theorem dX14_next_23 : decode cX14_next 23 = .ok (.if_icmp .ne 16, 3) := by decide +kernel
theorem dX14_next_26 : decode cX14_next 26 = .ok (.aload_n 0, 1) := by decide +kernel
theorem dX14_next_27 : decode cX14_next 27 = .ok (.dup, 1) := by decide +kernel
theorem dX14_next_28 : decode cX14_next 28 = .ok (.getfield 103, 3) := by decide +kernel
theorem dX14_next_31 : decode cX14_next 31 = .ok (.iconst 1, 1) := by decide +kernel
theorem dX14_next_32 : decode cX14_next 32 = .ok (.iadd, 1) := by decide +kernel
theorem dX14_next_33 : decode cX14_next 33 = .ok (.putfield 103, 3) := by decide +kernel
theorem dX14_next_36 : decode cX14_next 36 = .ok (.goto (-36), 3) := by decide +kernel
theorem dX14_next_39 : decode cX14_next 39 = .ok (.aload_n 0, 1) := by decide +kernel
theorem dX14_next_40 : decode cX14_next 40 = .ok (.aload_n 0, 1) := by decide +kernel
theorem dX14_next_41 : decode cX14_next 41 = .ok (.getfield 103, 3) := by decide +kernel
theorem dX14_next_44 : decode cX14_next 44 = .ok (.putfield 110, 3) := by decide +kernel
theorem dX14_next_47 : decode cX14_next 47 = .ok (.aload_n 0, 1) := by decide +kernel
theorem dX14_next_48 : decode cX14_next 48 = .ok (.iconst 0, 1) := by decide +kernel
theorem dX14_next_49 : decode cX14_next 49 = .ok (.putfield 111, 3) := by decide +kernel
theorem dX14_next_52 : decode cX14_next 52 = .ok (.aload_n 0, 1) := by decide +kernel
theorem dX14_next_53 : decode cX14_next 53 = .ok (.iconst 0, 1) := by decide +kernel
theorem dX14_next_54 : decode cX14_next 54 = .ok (.putfield 114, 3) := by decide +kernel
theorem dX14_next_57 : decode cX14_next 57 = .ok (.aload_n 0, 1) := by decide +kernel
theorem dX14_next_58 : decode cX14_next 58 = .ok (.aload_n 0, 1) := by decide +kernel
theorem dX14_next_59 : decode cX14_next 59 = .ok (.getfield 103, 3) := by decide +kernel
theorem dX14_next_62 : decode cX14_next 62 = .ok (.invokevirtual 106, 3) := by decide +kernel
theorem dX14_next_65 : decode cX14_next 65 = .ok (.istore_n 1, 1) := by decide +kernel
theorem dX14_next_66 : decode cX14_next 66 = .ok (.iconst 0, 1) := by decide +kernel
theorem dX14_next_67 : decode cX14_next 67 = .ok (.istore_n 2, 1) := by decide +kernel
theorem dX14_next_68 : decode cX14_next 68 = .ok (.iload_n 1, 1) := by decide +kernel
theorem dX14_next_69 : decode cX14_next 69 = .ok (.iconst (-1), 1) := by decide +kernel
theorem dX14_next_70 : decode cX14_next 70 = .ok (.if_icmp .ne 11, 3) := by decide +kernel
theorem dX14_next_73 : decode cX14_next 73 = .ok (.aload_n 0, 1) := by decide +kernel
theorem dX14_next_74 : decode cX14_next 74 = .ok (.iconst 1, 1) := by decide +kernel
theorem dX14_next_75 : decode cX14_next 75 = .ok (.putfield 111, 3) := by decide +kernel
theorem dX14_next_78 : decode cX14_next 78 = .ok (.goto 208, 3) := by decide +kernel
theorem dX14_next_81 : decode cX14_next 81 = .ok (.iload_n 1, 1) := by decide +kernel
theorem dX14_next_82 : decode cX14_next 82 = .ok (.invokestatic 117, 3) := by decide +kernel
theorem dX14_next_85 : decode cX14_next 85 = .ok (.ifCond .eq 90, 3) := by decide +kernel
theorem dX14_next_88 : decode cX14_next 88 = .ok (.aload_n 0, 1) := by decide +kernel
theorem dX14_next_89 : decode cX14_next 89 = .ok (.lconst 0, 1) := by decide +kernel
theorem dX14_next_90 : decode cX14_next 90 = .ok (.putfield 121, 3) := by decide +kernel
theorem dX14_next_93 : decode cX14_next 93 = .ok (.aload_n 0, 1) := by decide +kernel
theorem dX14_next_94 : decode cX14_next 94 = .ok (.aload_n 0, 1) := by decide +kernel
theorem dX14_next_95 : decode cX14_next 95 = .ok (.getfield 103, 3) := by decide +kernel
theorem dX14_next_98 : decode cX14_next 98 = .ok (.invokevirtual 106, 3) := by decide +kernel
theorem dX14_next_101 : decode cX14_next 101 = .ok (.invokestatic 117, 3) := by decide +kernel
theorem dX14_next_104 : decode cX14_next 104 = .ok (.ifCond .eq 52, 3) := by decide +kernel
theorem dX14_next_107 : decode cX14_next 107 = .ok (.iload_n 2, 1) := by decide +kernel
theorem dX14_next_108 : decode cX14_next 108 = .ok (.bipush 8, 2) := by decide +kernel
theorem dX14_next_110 : decode cX14_next 110 = .ok (.if_icmp .ge 30, 3) := by decide +kernel
theorem dX14_next_113 : decode cX14_next 113 = .ok (.aload_n 0, 1) := by decide +kernel
theorem dX14_next_114 : decode cX14_next 114 = .ok (.ldc2_w 97, 3) := by decide +kernel
theorem dX14_next_117 : decode cX14_next 117 = .ok (.aload_n 0, 1) := by decide +kernel
theorem dX14_next_118 : decode cX14_next 118 = .ok (.getfield 121, 3) := by decide +kernel
theorem dX14_next_121 : decode cX14_next 121 = .ok (.lmul, 1) := by decide +kernel
theorem dX14_next_122 : decode cX14_next 122 = .ok (.aload_n 0, 1) := by decide +kernel
theorem dX14_next_123 : decode cX14_next 123 = .ok (.aload_n 0, 1) := by decide +kernel
theorem dX14_next_124 : decode cX14_next 124 = .ok (.getfield 103, 3) := by decide +kernel
theorem dX14_next_127 : decode cX14_next 127 = .ok (.invokevirtual 106, 3) := by decide +kernel
theorem dX14_next_130 : decode cX14_next 130 = .ok (.bipush 97, 2) := by decide +kernel
theorem dX14_next_132 : decode cX14_next 132 = .ok (.isub, 1) := by decide +kernel
theorem dX14_next_133 : decode cX14_next 133 = .ok (.iconst 1, 1) := by decide +kernel
theorem dX14_next_134 : decode cX14_next 134 = .ok (.iadd, 1) := by decide +kernel
theorem dX14_next_135 : decode cX14_next 135 = .ok (.i2l, 1) := by decide +kernel
theorem dX14_next_136 : decode cX14_next 136 = .ok (.ladd, 1) := by decide +kernel
theorem dX14_next_137 : decode cX14_next 137 = .ok (.putfield 121, 3) := by decide +kernel
theorem dX14_next_140 : decode cX14_next 140 = .ok (.iinc 2 1, 3) := by decide +kernel
theorem dX14_next_143 : decode cX14_next 143 = .ok (.aload_n 0, 1) := by decide +kernel
theorem dX14_next_144 : decode cX14_next 144 = .ok (.dup, 1) := by decide +kernel
theorem dX14_next_145 : decode cX14_next 145 = .ok (.getfield 103, 3) := by decide +kernel
theorem dX14_next_148 : decode cX14_next 148 = .ok (.iconst 1, 1) := by decide +kernel
theorem dX14_next_149 : decode cX14_next 149 = .ok (.iadd, 1) := by decide +kernel
theorem dX14_next_150 : decode cX14_next 150 = .ok (.putfield 103, 3) := by decide +kernel
theorem dX14_next_153 : decode cX14_next 153 = .ok (.goto (-60), 3) := by decide +kernel
theorem dX14_next_156 : decode cX14_next 156 = .ok (.aload_n 0, 1) := by decide +kernel
theorem dX14_next_157 : decode cX14_next 157 = .ok (.iload_n 2, 1) := by decide +kernel
theorem dX14_next_158 : decode cX14_next 158 = .ok (.putfield 125, 3) := by decide +kernel
theorem dX14_next_161 : decode cX14_next 161 = .ok (.iload_n 2, 1) := by decide +kernel
theorem dX14_next_162 : decode cX14_next 162 = .ok (.bipush 8, 2) := by decide +kernel
theorem dX14_next_164 : decode cX14_next 164 = .ok (.if_icmp .gt 122, 3) := by decide +kernel
theorem dX14_next_167 : decode cX14_next 167 = .ok (.aload_n 0, 1) := by decide +kernel
theorem dX14_next_168 : decode cX14_next 168 = .ok (.iconst 2, 1) := by decide +kernel
theorem dX14_next_169 : decode cX14_next 169 = .ok (.putfield 111, 3) := by decide +kernel
theorem dX14_next_172 : decode cX14_next 172 = .ok (.goto 114, 3) := by decide +kernel
theorem dX14_next_175 : decode cX14_next 175 = .ok (.iload_n 1, 1) := by decide +kernel
theorem dX14_next_176 : decode cX14_next 176 = .ok (.invokestatic 128, 3) := by decide +kernel
theorem dX14_next_179 : decode cX14_next 179 = .ok (.ifCond .eq 80, 3) := by decide +kernel
theorem dX14_next_182 : decode cX14_next 182 = .ok (.aload_n 0, 1) := by decide +kernel
theorem dX14_next_183 : decode cX14_next 183 = .ok (.iconst 0, 1) := by decide +kernel
theorem dX14_next_184 : decode cX14_next 184 = .ok (.putfield 131, 3) := by decide +kernel
theorem dX14_next_187 : decode cX14_next 187 = .ok (.aload_n 0, 1) := by decide +kernel
theorem dX14_next_188 : decode cX14_next 188 = .ok (.aload_n 0, 1) := by decide +kernel
theorem dX14_next_189 : decode cX14_next 189 = .ok (.getfield 103, 3) := by decide +kernel
theorem dX14_next_192 : decode cX14_next 192 = .ok (.invokevirtual 106, 3) := by decide +kernel
theorem dX14_next_195 : decode cX14_next 195 = .ok (.invokestatic 128, 3) := by decide +kernel
theorem dX14_next_198 : decode cX14_next 198 = .ok (.ifCond .eq 47, 3) := by decide +kernel
theorem dX14_next_201 : decode cX14_next 201 = .ok (.iload_n 2, 1) := by decide +kernel
theorem dX14_next_202 : decode cX14_next 202 = .ok (.iconst 5, 1) := by decide +kernel
theorem dX14_next_203 : decode cX14_next 203 = .ok (.if_icmp .ge 26, 3) := by decide +kernel
theorem dX14_next_206 : decode cX14_next 206 = .ok (.aload_n 0, 1) := by decide +kernel
theorem dX14_next_207 : decode cX14_next 207 = .ok (.bipush 10, 2) := by decide +kernel
theorem dX14_next_209 : decode cX14_next 209 = .ok (.aload_n 0, 1) := by decide +kernel
theorem dX14_next_210 : decode cX14_next 210 = .ok (.getfield 131, 3) := by decide +kernel
theorem dX14_next_213 : decode cX14_next 213 = .ok (.imul, 1) := by decide +kernel
theorem dX14_next_214 : decode cX14_next 214 = .ok (.aload_n 0, 1) := by decide +kernel
theorem dX14_next_215 : decode cX14_next 215 = .ok (.aload_n 0, 1) := by decide +kernel
theorem dX14_next_216 : decode cX14_next 216 = .ok (.getfield 103, 3) := by decide +kernel
theorem dX14_next_219 : decode cX14_next 219 = .ok (.invokevirtual 106, 3) := by decide +kernel
theorem dX14_next_222 : decode cX14_next 222 = .ok (.iadd, 1) := by decide +kernel
theorem dX14_next_223 : decode cX14_next 223 = .ok (.bipush 48, 2) := by decide +kernel
theorem dX14_next_225 : decode cX14_next 225 = .ok (.isub, 1) := by decide +kernel
theorem dX14_next_226 : decode cX14_next 226 = .ok (.putfield 131, 3) := by decide +kernel
theorem dX14_next_229 : decode cX14_next 229 = .ok (.iinc 2 1, 3) := by decide +kernel
theorem dX14_next_232 : decode cX14_next 232 = .ok (.aload_n 0, 1) := by decide +kernel
theorem dX14_next_233 : decode cX14_next 233 = .ok (.dup, 1) := by decide +kernel
theorem dX14_next_234 : decode cX14_next 234 = .ok (.getfield 103, 3) := by decide +kernel
theorem dX14_next_237 : decode cX14_next 237 = .ok (.iconst 1, 1) := by decide +kernel
theorem dX14_next_238 : decode cX14_next 238 = .ok (.iadd, 1) := by decide +kernel
theorem dX14_next_239 : decode cX14_next 239 = .ok (.putfield 103, 3) := by decide +kernel
theorem dX14_next_242 : decode cX14_next 242 = .ok (.goto (-55), 3) := by decide +kernel
theorem dX14_next_245 : decode cX14_next 245 = .ok (.iload_n 2, 1) := by decide +kernel
theorem dX14_next_246 : decode cX14_next 246 = .ok (.bipush 6, 2) := by decide +kernel
theorem dX14_next_248 : decode cX14_next 248 = .ok (.if_icmp .ge 38, 3) := by decide +kernel
theorem dX14_next_251 : decode cX14_next 251 = .ok (.aload_n 0, 1) := by decide +kernel
theorem dX14_next_252 : decode cX14_next 252 = .ok (.iconst 3, 1) := by decide +kernel
theorem dX14_next_253 : decode cX14_next 253 = .ok (.putfield 111, 3) := by decide +kernel
theorem dX14_next_256 : decode cX14_next 256 = .ok (.goto 30, 3) := by decide +kernel
theorem dX14_next_259 : decode cX14_next 259 = .ok (.iload_n 1, 1) := by decide +kernel
theorem dX14_next_260 : decode cX14_next 260 = .ok (.invokestatic 134, 3) := by decide +kernel
theorem dX14_next_263 : decode cX14_next 263 = .ok (.ifCond .eq 23, 3) := by decide +kernel
theorem dX14_next_266 : decode cX14_next 266 = .ok (.aload_n 0, 1) := by decide +kernel
theorem dX14_next_267 : decode cX14_next 267 = .ok (.iconst 4, 1) := by decide +kernel
theorem dX14_next_268 : decode cX14_next 268 = .ok (.putfield 111, 3) := by decide +kernel
theorem dX14_next_271 : decode cX14_next 271 = .ok (.aload_n 0, 1) := by decide +kernel
theorem dX14_next_272 : decode cX14_next 272 = .ok (.iload_n 1, 1) := by decide +kernel
theorem dX14_next_273 : decode cX14_next 273 = .ok (.putfield 114, 3) := by decide +kernel
theorem dX14_next_276 : decode cX14_next 276 = .ok (.aload_n 0, 1) := by decide +kernel
theorem dX14_next_277 : decode cX14_next 277 = .ok (.dup, 1) := by decide +kernel
theorem dX14_next_278 : decode cX14_next 278 = .ok (.getfield 103, 3) := by decide +kernel
theorem dX14_next_281 : decode cX14_next 281 = .ok (.iconst 1, 1) := by decide +kernel
theorem dX14_next_282 : decode cX14_next 282 = .ok (.iadd, 1) := by decide +kernel
theorem dX14_next_283 : decode cX14_next 283 = .ok (.putfield 103, 3) := by decide +kernel
theorem dX14_next_286 : decode cX14_next 286 = .ok (.return_, 1) := by decide +kernel
theorem dX14_isWord_0 : decode cX14_isWord 0 = .ok (.aload_n 0, 1) := by decide +kernel
theorem dX14_isWord_1 : decode cX14_isWord 1 = .ok (.getfield 111, 3) := by decide +kernel
theorem dX14_isWord_4 : decode cX14_isWord 4 = .ok (.iconst 2, 1) := by decide +kernel
theorem dX14_isWord_5 : decode cX14_isWord 5 = .ok (.if_icmp .ne 19, 3) := by decide +kernel
theorem dX14_isWord_8 : decode cX14_isWord 8 = .ok (.aload_n 0, 1) := by decide +kernel
theorem dX14_isWord_9 : decode cX14_isWord 9 = .ok (.getfield 121, 3) := by decide +kernel
theorem dX14_isWord_12 : decode cX14_isWord 12 = .ok (.aload_n 1, 1) := by decide +kernel
theorem dX14_isWord_13 : decode cX14_isWord 13 = .ok (.invokestatic 137, 3) := by decide +kernel
theorem dX14_isWord_16 : decode cX14_isWord 16 = .ok (.lcmp, 1) := by decide +kernel
theorem dX14_isWord_17 : decode cX14_isWord 17 = .ok (.ifCond .ne 7, 3) := by decide +kernel
theorem dX14_isWord_20 : decode cX14_isWord 20 = .ok (.iconst 1, 1) := by decide +kernel
theorem dX14_isWord_21 : decode cX14_isWord 21 = .ok (.goto 4, 3) := by decide +kernel
theorem dX14_isWord_24 : decode cX14_isWord 24 = .ok (.iconst 0, 1) := by decide +kernel
theorem dX14_isWord_25 : decode cX14_isWord 25 = .ok (.ireturn, 1) := by decide +kernel
theorem dX14_reads_0 : decode cX14_reads 0 = .ok (.aload_n 0, 1) := by decide +kernel
theorem dX14_reads_1 : decode cX14_reads 1 = .ok (.getfield 23, 3) := by decide +kernel
theorem dX14_reads_4 : decode cX14_reads 4 = .ok (.iconst 0, 1) := by decide +kernel
theorem dX14_reads_5 : decode cX14_reads 5 = .ok (.putfield 168, 3) := by decide +kernel
theorem dX14_reads_8 : decode cX14_reads 8 = .ok (.aload_n 0, 1) := by decide +kernel
theorem dX14_reads_9 : decode cX14_reads 9 = .ok (.getfield 23, 3) := by decide +kernel
theorem dX14_reads_12 : decode cX14_reads 12 = .ok (.iconst 0, 1) := by decide +kernel
theorem dX14_reads_13 : decode cX14_reads 13 = .ok (.putfield 171, 3) := by decide +kernel
theorem dX14_reads_16 : decode cX14_reads 16 = .ok (.aload_n 0, 1) := by decide +kernel
theorem dX14_reads_17 : decode cX14_reads 17 = .ok (.getfield 23, 3) := by decide +kernel
theorem dX14_reads_20 : decode cX14_reads 20 = .ok (.iconst 0, 1) := by decide +kernel
theorem dX14_reads_21 : decode cX14_reads 21 = .ok (.putfield 174, 3) := by decide +kernel
theorem dX14_reads_24 : decode cX14_reads 24 = .ok (.aload_n 0, 1) := by decide +kernel
theorem dX14_reads_25 : decode cX14_reads 25 = .ok (.iconst 0, 1) := by decide +kernel
theorem dX14_reads_26 : decode cX14_reads 26 = .ok (.putfield 177, 3) := by decide +kernel
theorem dX14_reads_29 : decode cX14_reads 29 = .ok (.aload_n 0, 1) := by decide +kernel
theorem dX14_reads_30 : decode cX14_reads 30 = .ok (.iconst 0, 1) := by decide +kernel
theorem dX14_reads_31 : decode cX14_reads 31 = .ok (.putfield 180, 3) := by decide +kernel
theorem dX14_reads_34 : decode cX14_reads 34 = .ok (.aload_n 0, 1) := by decide +kernel
theorem dX14_reads_35 : decode cX14_reads 35 = .ok (.invokevirtual 147, 3) := by decide +kernel
theorem dX14_reads_38 : decode cX14_reads 38 = .ok (.iconst 1, 1) := by decide +kernel
theorem dX14_reads_39 : decode cX14_reads 39 = .ok (.istore_n 1, 1) := by decide +kernel
theorem dX14_reads_40 : decode cX14_reads 40 = .ok (.iload_n 1, 1) := by decide +kernel
theorem dX14_reads_41 : decode cX14_reads 41 = .ok (.ifCond .eq 24, 3) := by decide +kernel
theorem dX14_reads_44 : decode cX14_reads 44 = .ok (.aload_n 0, 1) := by decide +kernel
theorem dX14_reads_45 : decode cX14_reads 45 = .ok (.invokevirtual 183, 3) := by decide +kernel
theorem dX14_reads_48 : decode cX14_reads 48 = .ok (.aload_n 0, 1) := by decide +kernel
theorem dX14_reads_49 : decode cX14_reads 49 = .ok (.getfield 111, 3) := by decide +kernel
theorem dX14_reads_52 : decode cX14_reads 52 = .ok (.iconst 1, 1) := by decide +kernel
theorem dX14_reads_53 : decode cX14_reads 53 = .ok (.if_icmp .eq 7, 3) := by decide +kernel
theorem dX14_reads_56 : decode cX14_reads 56 = .ok (.iconst 1, 1) := by decide +kernel
theorem dX14_reads_57 : decode cX14_reads 57 = .ok (.goto 4, 3) := by decide +kernel
theorem dX14_reads_60 : decode cX14_reads 60 = .ok (.iconst 0, 1) := by decide +kernel
theorem dX14_reads_61 : decode cX14_reads 61 = .ok (.istore_n 1, 1) := by decide +kernel
theorem dX14_reads_62 : decode cX14_reads 62 = .ok (.goto (-22), 3) := by decide +kernel
theorem dX14_reads_65 : decode cX14_reads 65 = .ok (.iconst (-1), 1) := by decide +kernel
theorem dX14_reads_66 : decode cX14_reads 66 = .ok (.istore_n 2, 1) := by decide +kernel
theorem dX14_reads_67 : decode cX14_reads 67 = .ok (.iconst 0, 1) := by decide +kernel
theorem dX14_reads_68 : decode cX14_reads 68 = .ok (.istore_n 3, 1) := by decide +kernel
theorem dX14_reads_69 : decode cX14_reads 69 = .ok (.iload_n 3, 1) := by decide +kernel
theorem dX14_reads_70 : decode cX14_reads 70 = .ok (.aload_n 0, 1) := by decide +kernel
theorem dX14_reads_71 : decode cX14_reads 71 = .ok (.getfield 23, 3) := by decide +kernel
theorem dX14_reads_74 : decode cX14_reads 74 = .ok (.getfield 174, 3) := by decide +kernel
theorem dX14_reads_77 : decode cX14_reads 77 = .ok (.if_icmp .ge 110, 3) := by decide +kernel
theorem dX14_reads_80 : decode cX14_reads 80 = .ok (.aload_n 0, 1) := by decide +kernel
theorem dX14_reads_81 : decode cX14_reads 81 = .ok (.getfield 23, 3) := by decide +kernel
theorem dX14_reads_84 : decode cX14_reads 84 = .ok (.getfield 186, 3) := by decide +kernel
theorem dX14_reads_87 : decode cX14_reads 87 = .ok (.iload_n 3, 1) := by decide +kernel
theorem dX14_reads_88 : decode cX14_reads 88 = .ok (.iaload, 1) := by decide +kernel
theorem dX14_reads_89 : decode cX14_reads 89 = .ok (.iconst 5, 1) := by decide +kernel
theorem dX14_reads_90 : decode cX14_reads 90 = .ok (.if_icmp .eq 6, 3) := by decide +kernel
theorem dX14_reads_93 : decode cX14_reads 93 = .ok (.goto 88, 3) := by decide +kernel
theorem dX14_reads_96 : decode cX14_reads 96 = .ok (.aload_n 0, 1) := by decide +kernel
theorem dX14_reads_97 : decode cX14_reads 97 = .ok (.getfield 23, 3) := by decide +kernel
theorem dX14_reads_100 : decode cX14_reads 100 = .ok (.aload_n 0, 1) := by decide +kernel
theorem dX14_reads_101 : decode cX14_reads 101 = .ok (.getfield 23, 3) := by decide +kernel
theorem dX14_reads_104 : decode cX14_reads 104 = .ok (.getfield 189, 3) := by decide +kernel
theorem dX14_reads_107 : decode cX14_reads 107 = .ok (.iload_n 3, 1) := by decide +kernel
theorem dX14_reads_108 : decode cX14_reads 108 = .ok (.laload, 1) := by decide +kernel
theorem dX14_reads_109 : decode cX14_reads 109 = .ok (.invokevirtual 192, 3) := by decide +kernel
theorem dX14_reads_112 : decode cX14_reads 112 = .ok (.istore 4, 2) := by decide +kernel
theorem dX14_reads_114 : decode cX14_reads 114 = .ok (.iload 4, 2) := by decide +kernel
theorem dX14_reads_116 : decode cX14_reads 116 = .ok (.iconst (-1), 1) := by decide +kernel
theorem dX14_reads_117 : decode cX14_reads 117 = .ok (.if_icmp .eq 25, 3) := by decide +kernel
theorem dX14_reads_120 : decode cX14_reads 120 = .ok (.aload_n 0, 1) := by decide +kernel
theorem dX14_reads_121 : decode cX14_reads 121 = .ok (.getfield 23, 3) := by decide +kernel
theorem dX14_reads_124 : decode cX14_reads 124 = .ok (.getfield 196, 3) := by decide +kernel
theorem dX14_reads_127 : decode cX14_reads 127 = .ok (.iload 4, 2) := by decide +kernel
theorem dX14_reads_129 : decode cX14_reads 129 = .ok (.iaload, 1) := by decide +kernel
theorem dX14_reads_130 : decode cX14_reads 130 = .ok (.aload_n 0, 1) := by decide +kernel
theorem dX14_reads_131 : decode cX14_reads 131 = .ok (.getfield 23, 3) := by decide +kernel
theorem dX14_reads_134 : decode cX14_reads 134 = .ok (.getfield 199, 3) := by decide +kernel
theorem dX14_reads_137 : decode cX14_reads 137 = .ok (.iload_n 3, 1) := by decide +kernel
theorem dX14_reads_138 : decode cX14_reads 138 = .ok (.iaload, 1) := by decide +kernel
theorem dX14_reads_139 : decode cX14_reads 139 = .ok (.if_icmp .eq 31, 3) := by decide +kernel
theorem dX14_reads_142 : decode cX14_reads 142 = .ok (.iload_n 2, 1) := by decide +kernel
theorem dX14_reads_143 : decode cX14_reads 143 = .ok (.iconst (-1), 1) := by decide +kernel
theorem dX14_reads_144 : decode cX14_reads 144 = .ok (.if_icmp .eq 16, 3) := by decide +kernel
theorem dX14_reads_147 : decode cX14_reads 147 = .ok (.aload_n 0, 1) := by decide +kernel
theorem dX14_reads_148 : decode cX14_reads 148 = .ok (.getfield 23, 3) := by decide +kernel
theorem dX14_reads_151 : decode cX14_reads 151 = .ok (.getfield 202, 3) := by decide +kernel
theorem dX14_reads_154 : decode cX14_reads 154 = .ok (.iload_n 3, 1) := by decide +kernel
theorem dX14_reads_155 : decode cX14_reads 155 = .ok (.iaload, 1) := by decide +kernel
theorem dX14_reads_156 : decode cX14_reads 156 = .ok (.iload_n 2, 1) := by decide +kernel
theorem dX14_reads_157 : decode cX14_reads 157 = .ok (.if_icmp .ge 13, 3) := by decide +kernel
theorem dX14_reads_160 : decode cX14_reads 160 = .ok (.aload_n 0, 1) := by decide +kernel
theorem dX14_reads_161 : decode cX14_reads 161 = .ok (.getfield 23, 3) := by decide +kernel
theorem dX14_reads_164 : decode cX14_reads 164 = .ok (.getfield 202, 3) := by decide +kernel
theorem dX14_reads_167 : decode cX14_reads 167 = .ok (.iload_n 3, 1) := by decide +kernel
theorem dX14_reads_168 : decode cX14_reads 168 = .ok (.iaload, 1) := by decide +kernel
theorem dX14_reads_169 : decode cX14_reads 169 = .ok (.istore_n 2, 1) := by decide +kernel
theorem dX14_reads_170 : decode cX14_reads 170 = .ok (.aload_n 0, 1) := by decide +kernel
theorem dX14_reads_171 : decode cX14_reads 171 = .ok (.getfield 23, 3) := by decide +kernel
theorem dX14_reads_174 : decode cX14_reads 174 = .ok (.getfield 205, 3) := by decide +kernel
theorem dX14_reads_177 : decode cX14_reads 177 = .ok (.iload_n 3, 1) := by decide +kernel
theorem dX14_reads_178 : decode cX14_reads 178 = .ok (.iload 4, 2) := by decide +kernel
theorem dX14_reads_180 : decode cX14_reads 180 = .ok (.iastore, 1) := by decide +kernel
theorem dX14_reads_181 : decode cX14_reads 181 = .ok (.iinc 3 1, 3) := by decide +kernel
theorem dX14_reads_184 : decode cX14_reads 184 = .ok (.goto (-115), 3) := by decide +kernel
theorem dX14_reads_187 : decode cX14_reads 187 = .ok (.iload_n 2, 1) := by decide +kernel
theorem dX14_reads_188 : decode cX14_reads 188 = .ok (.iconst (-1), 1) := by decide +kernel
theorem dX14_reads_189 : decode cX14_reads 189 = .ok (.if_icmp .eq 10, 3) := by decide +kernel
theorem dX14_reads_192 : decode cX14_reads 192 = .ok (.aload_n 0, 1) := by decide +kernel
theorem dX14_reads_193 : decode cX14_reads 193 = .ok (.iconst 4, 1) := by decide +kernel
theorem dX14_reads_194 : decode cX14_reads 194 = .ok (.iload_n 2, 1) := by decide +kernel
theorem dX14_reads_195 : decode cX14_reads 195 = .ok (.invokevirtual 144, 3) := by decide +kernel
theorem dX14_reads_198 : decode cX14_reads 198 = .ok (.athrow, 1) := by decide +kernel
theorem dX14_reads_199 : decode cX14_reads 199 = .ok (.return_, 1) := by decide +kernel
theorem dX14_readFunction_0 : decode cX14_readFunction 0 = .ok (.aload_n 0, 1) := by decide +kernel
theorem dX14_readFunction_1 : decode cX14_readFunction 1 = .ok (.ldc 152, 2) := by decide +kernel
theorem dX14_readFunction_3 : decode cX14_readFunction 3 = .ok (.invokevirtual 154, 3) := by decide +kernel
theorem dX14_readFunction_6 : decode cX14_readFunction 6 = .ok (.ifCond .ne 13, 3) := by decide +kernel
theorem dX14_readFunction_9 : decode cX14_readFunction 9 = .ok (.aload_n 0, 1) := by decide +kernel
theorem dX14_readFunction_10 : decode cX14_readFunction 10 = .ok (.iconst 1, 1) := by decide +kernel
theorem dX14_readFunction_11 : decode cX14_readFunction 11 = .ok (.aload_n 0, 1) := by decide +kernel
theorem dX14_readFunction_12 : decode cX14_readFunction 12 = .ok (.getfield 110, 3) := by decide +kernel
theorem dX14_readFunction_15 : decode cX14_readFunction 15 = .ok (.invokevirtual 144, 3) := by decide +kernel
theorem dX14_readFunction_18 : decode cX14_readFunction 18 = .ok (.athrow, 1) := by decide +kernel
theorem dX14_readFunction_19 : decode cX14_readFunction 19 = .ok (.aload_n 0, 1) := by decide +kernel
theorem dX14_readFunction_20 : decode cX14_readFunction 20 = .ok (.getfield 23, 3) := by decide +kernel
theorem dX14_readFunction_23 : decode cX14_readFunction 23 = .ok (.getfield 168, 3) := by decide +kernel
theorem dX14_readFunction_26 : decode cX14_readFunction 26 = .ok (.bipush 10, 2) := by decide +kernel
theorem dX14_readFunction_28 : decode cX14_readFunction 28 = .ok (.if_icmp .ne 13, 3) := by decide +kernel
theorem dX14_readFunction_31 : decode cX14_readFunction 31 = .ok (.aload_n 0, 1) := by decide +kernel
theorem dX14_readFunction_32 : decode cX14_readFunction 32 = .ok (.iconst 3, 1) := by decide +kernel
theorem dX14_readFunction_33 : decode cX14_readFunction 33 = .ok (.aload_n 0, 1) := by decide +kernel
theorem dX14_readFunction_34 : decode cX14_readFunction 34 = .ok (.getfield 110, 3) := by decide +kernel
theorem dX14_readFunction_37 : decode cX14_readFunction 37 = .ok (.invokevirtual 144, 3) := by decide +kernel
theorem dX14_readFunction_40 : decode cX14_readFunction 40 = .ok (.athrow, 1) := by decide +kernel
theorem dX14_readFunction_41 : decode cX14_readFunction 41 = .ok (.aload_n 0, 1) := by decide +kernel
theorem dX14_readFunction_42 : decode cX14_readFunction 42 = .ok (.getfield 23, 3) := by decide +kernel
theorem dX14_readFunction_45 : decode cX14_readFunction 45 = .ok (.getfield 168, 3) := by decide +kernel
theorem dX14_readFunction_48 : decode cX14_readFunction 48 = .ok (.istore_n 1, 1) := by decide +kernel
theorem dX14_readFunction_49 : decode cX14_readFunction 49 = .ok (.aload_n 0, 1) := by decide +kernel
theorem dX14_readFunction_50 : decode cX14_readFunction 50 = .ok (.getfield 23, 3) := by decide +kernel
theorem dX14_readFunction_53 : decode cX14_readFunction 53 = .ok (.getfield 208, 3) := by decide +kernel
theorem dX14_readFunction_56 : decode cX14_readFunction 56 = .ok (.iload_n 1, 1) := by decide +kernel
theorem dX14_readFunction_57 : decode cX14_readFunction 57 = .ok (.aload_n 0, 1) := by decide +kernel
theorem dX14_readFunction_58 : decode cX14_readFunction 58 = .ok (.getfield 110, 3) := by decide +kernel
theorem dX14_readFunction_61 : decode cX14_readFunction 61 = .ok (.iastore, 1) := by decide +kernel
theorem dX14_readFunction_62 : decode cX14_readFunction 62 = .ok (.aload_n 0, 1) := by decide +kernel
theorem dX14_readFunction_63 : decode cX14_readFunction 63 = .ok (.invokevirtual 147, 3) := by decide +kernel
theorem dX14_readFunction_66 : decode cX14_readFunction 66 = .ok (.aload_n 0, 1) := by decide +kernel
theorem dX14_readFunction_67 : decode cX14_readFunction 67 = .ok (.invokevirtual 211, 3) := by decide +kernel
theorem dX14_readFunction_70 : decode cX14_readFunction 70 = .ok (.ifCond .ne 13, 3) := by decide +kernel
theorem dX14_readFunction_73 : decode cX14_readFunction 73 = .ok (.aload_n 0, 1) := by decide +kernel
theorem dX14_readFunction_74 : decode cX14_readFunction 74 = .ok (.iconst 1, 1) := by decide +kernel
theorem dX14_readFunction_75 : decode cX14_readFunction 75 = .ok (.aload_n 0, 1) := by decide +kernel
theorem dX14_readFunction_76 : decode cX14_readFunction 76 = .ok (.getfield 110, 3) := by decide +kernel
theorem dX14_readFunction_79 : decode cX14_readFunction 79 = .ok (.invokevirtual 144, 3) := by decide +kernel
theorem dX14_readFunction_82 : decode cX14_readFunction 82 = .ok (.athrow, 1) := by decide +kernel
theorem dX14_readFunction_83 : decode cX14_readFunction 83 = .ok (.aload_n 0, 1) := by decide +kernel
theorem dX14_readFunction_84 : decode cX14_readFunction 84 = .ok (.getfield 23, 3) := by decide +kernel
theorem dX14_readFunction_87 : decode cX14_readFunction 87 = .ok (.aload_n 0, 1) := by decide +kernel
theorem dX14_readFunction_88 : decode cX14_readFunction 88 = .ok (.getfield 121, 3) := by decide +kernel
theorem dX14_readFunction_91 : decode cX14_readFunction 91 = .ok (.invokevirtual 192, 3) := by decide +kernel
theorem dX14_readFunction_94 : decode cX14_readFunction 94 = .ok (.iconst (-1), 1) := by decide +kernel
theorem dX14_readFunction_95 : decode cX14_readFunction 95 = .ok (.if_icmp .eq 13, 3) := by decide +kernel
theorem dX14_readFunction_98 : decode cX14_readFunction 98 = .ok (.aload_n 0, 1) := by decide +kernel
theorem dX14_readFunction_99 : decode cX14_readFunction 99 = .ok (.iconst 2, 1) := by decide +kernel
theorem dX14_readFunction_100 : decode cX14_readFunction 100 = .ok (.aload_n 0, 1) := by decide +kernel
theorem dX14_readFunction_101 : decode cX14_readFunction 101 = .ok (.getfield 110, 3) := by decide +kernel
theorem dX14_readFunction_104 : decode cX14_readFunction 104 = .ok (.invokevirtual 144, 3) := by decide +kernel
theorem dX14_readFunction_107 : decode cX14_readFunction 107 = .ok (.athrow, 1) := by decide +kernel
theorem dX14_readFunction_108 : decode cX14_readFunction 108 = .ok (.aload_n 0, 1) := by decide +kernel
theorem dX14_readFunction_109 : decode cX14_readFunction 109 = .ok (.getfield 23, 3) := by decide +kernel
theorem dX14_readFunction_112 : decode cX14_readFunction 112 = .ok (.getfield 215, 3) := by decide +kernel
theorem dX14_readFunction_115 : decode cX14_readFunction 115 = .ok (.iload_n 1, 1) := by decide +kernel
theorem dX14_readFunction_116 : decode cX14_readFunction 116 = .ok (.aload_n 0, 1) := by decide +kernel
theorem dX14_readFunction_117 : decode cX14_readFunction 117 = .ok (.getfield 121, 3) := by decide +kernel
theorem dX14_readFunction_120 : decode cX14_readFunction 120 = .ok (.lastore, 1) := by decide +kernel
theorem dX14_readFunction_121 : decode cX14_readFunction 121 = .ok (.aload_n 0, 1) := by decide +kernel
theorem dX14_readFunction_122 : decode cX14_readFunction 122 = .ok (.getfield 23, 3) := by decide +kernel
theorem dX14_readFunction_125 : decode cX14_readFunction 125 = .ok (.getfield 218, 3) := by decide +kernel
theorem dX14_readFunction_128 : decode cX14_readFunction 128 = .ok (.iload_n 1, 1) := by decide +kernel
theorem dX14_readFunction_129 : decode cX14_readFunction 129 = .ok (.aload_n 0, 1) := by decide +kernel
theorem dX14_readFunction_130 : decode cX14_readFunction 130 = .ok (.getfield 125, 3) := by decide +kernel
theorem dX14_readFunction_133 : decode cX14_readFunction 133 = .ok (.iastore, 1) := by decide +kernel
theorem dX14_readFunction_134 : decode cX14_readFunction 134 = .ok (.aload_n 0, 1) := by decide +kernel
theorem dX14_readFunction_135 : decode cX14_readFunction 135 = .ok (.getfield 23, 3) := by decide +kernel
theorem dX14_readFunction_138 : decode cX14_readFunction 138 = .ok (.dup, 1) := by decide +kernel
theorem dX14_readFunction_139 : decode cX14_readFunction 139 = .ok (.getfield 168, 3) := by decide +kernel
theorem dX14_readFunction_142 : decode cX14_readFunction 142 = .ok (.iconst 1, 1) := by decide +kernel
theorem dX14_readFunction_143 : decode cX14_readFunction 143 = .ok (.iadd, 1) := by decide +kernel
theorem dX14_readFunction_144 : decode cX14_readFunction 144 = .ok (.putfield 168, 3) := by decide +kernel
theorem dX14_readFunction_147 : decode cX14_readFunction 147 = .ok (.aload_n 0, 1) := by decide +kernel
theorem dX14_readFunction_148 : decode cX14_readFunction 148 = .ok (.invokevirtual 147, 3) := by decide +kernel
theorem dX14_readFunction_151 : decode cX14_readFunction 151 = .ok (.aload_n 0, 1) := by decide +kernel
theorem dX14_readFunction_152 : decode cX14_readFunction 152 = .ok (.bipush 40, 2) := by decide +kernel
theorem dX14_readFunction_154 : decode cX14_readFunction 154 = .ok (.invokevirtual 221, 3) := by decide +kernel
theorem dX14_readFunction_157 : decode cX14_readFunction 157 = .ok (.aload_n 0, 1) := by decide +kernel
theorem dX14_readFunction_158 : decode cX14_readFunction 158 = .ok (.getfield 23, 3) := by decide +kernel
theorem dX14_readFunction_161 : decode cX14_readFunction 161 = .ok (.getfield 196, 3) := by decide +kernel
theorem dX14_readFunction_164 : decode cX14_readFunction 164 = .ok (.iload_n 1, 1) := by decide +kernel
theorem dX14_readFunction_165 : decode cX14_readFunction 165 = .ok (.iconst 0, 1) := by decide +kernel
theorem dX14_readFunction_166 : decode cX14_readFunction 166 = .ok (.iastore, 1) := by decide +kernel
theorem dX14_readFunction_167 : decode cX14_readFunction 167 = .ok (.aload_n 0, 1) := by decide +kernel
theorem dX14_readFunction_168 : decode cX14_readFunction 168 = .ok (.bipush 41, 2) := by decide +kernel
theorem dX14_readFunction_170 : decode cX14_readFunction 170 = .ok (.invokevirtual 141, 3) := by decide +kernel
theorem dX14_readFunction_173 : decode cX14_readFunction 173 = .ok (.ifCond .ne 7, 3) := by decide +kernel
theorem dX14_readFunction_176 : decode cX14_readFunction 176 = .ok (.iconst 1, 1) := by decide +kernel
theorem dX14_readFunction_177 : decode cX14_readFunction 177 = .ok (.goto 4, 3) := by decide +kernel
theorem dX14_readFunction_180 : decode cX14_readFunction 180 = .ok (.iconst 0, 1) := by decide +kernel
theorem dX14_readFunction_181 : decode cX14_readFunction 181 = .ok (.istore_n 2, 1) := by decide +kernel
theorem dX14_readFunction_182 : decode cX14_readFunction 182 = .ok (.iload_n 2, 1) := by decide +kernel
theorem dX14_readFunction_183 : decode cX14_readFunction 183 = .ok (.ifCond .eq 159, 3) := by decide +kernel
theorem dX14_readFunction_186 : decode cX14_readFunction 186 = .ok (.aload_n 0, 1) := by decide +kernel
theorem dX14_readFunction_187 : decode cX14_readFunction 187 = .ok (.invokevirtual 225, 3) := by decide +kernel
theorem dX14_readFunction_190 : decode cX14_readFunction 190 = .ok (.ifCond .ne 13, 3) := by decide +kernel
theorem dX14_readFunction_193 : decode cX14_readFunction 193 = .ok (.aload_n 0, 1) := by decide +kernel
theorem dX14_readFunction_194 : decode cX14_readFunction 194 = .ok (.iconst 1, 1) := by decide +kernel
theorem dX14_readFunction_195 : decode cX14_readFunction 195 = .ok (.aload_n 0, 1) := by decide +kernel
theorem dX14_readFunction_196 : decode cX14_readFunction 196 = .ok (.getfield 110, 3) := by decide +kernel
theorem dX14_readFunction_199 : decode cX14_readFunction 199 = .ok (.invokevirtual 144, 3) := by decide +kernel
theorem dX14_readFunction_202 : decode cX14_readFunction 202 = .ok (.athrow, 1) := by decide +kernel
theorem dX14_readFunction_203 : decode cX14_readFunction 203 = .ok (.aload_n 0, 1) := by decide +kernel
theorem dX14_readFunction_204 : decode cX14_readFunction 204 = .ok (.getfield 121, 3) := by decide +kernel
theorem dX14_readFunction_207 : decode cX14_readFunction 207 = .ok (.l2i, 1) := by decide +kernel
theorem dX14_readFunction_208 : decode cX14_readFunction 208 = .ok (.iconst 1, 1) := by decide +kernel
theorem dX14_readFunction_209 : decode cX14_readFunction 209 = .ok (.isub, 1) := by decide +kernel
theorem dX14_readFunction_210 : decode cX14_readFunction 210 = .ok (.istore_n 3, 1) := by decide +kernel
theorem dX14_readFunction_211 : decode cX14_readFunction 211 = .ok (.iconst 0, 1) := by decide +kernel
theorem dX14_readFunction_212 : decode cX14_readFunction 212 = .ok (.istore 4, 2) := by decide +kernel
theorem dX14_readFunction_214 : decode cX14_readFunction 214 = .ok (.iload 4, 2) := by decide +kernel
theorem dX14_readFunction_216 : decode cX14_readFunction 216 = .ok (.aload_n 0, 1) := by decide +kernel
theorem dX14_readFunction_217 : decode cX14_readFunction 217 = .ok (.getfield 23, 3) := by decide +kernel
theorem dX14_readFunction_220 : decode cX14_readFunction 220 = .ok (.getfield 196, 3) := by decide +kernel
theorem dX14_readFunction_223 : decode cX14_readFunction 223 = .ok (.iload_n 1, 1) := by decide +kernel
theorem dX14_readFunction_224 : decode cX14_readFunction 224 = .ok (.iaload, 1) := by decide +kernel
theorem dX14_readFunction_225 : decode cX14_readFunction 225 = .ok (.if_icmp .ge 37, 3) := by decide +kernel
theorem dX14_readFunction_228 : decode cX14_readFunction 228 = .ok (.aload_n 0, 1) := by decide +kernel
theorem dX14_readFunction_229 : decode cX14_readFunction 229 = .ok (.getfield 23, 3) := by decide +kernel
theorem dX14_readFunction_232 : decode cX14_readFunction 232 = .ok (.getfield 228, 3) := by decide +kernel
theorem dX14_readFunction_235 : decode cX14_readFunction 235 = .ok (.iconst 3, 1) := by decide +kernel
theorem dX14_readFunction_236 : decode cX14_readFunction 236 = .ok (.iload_n 1, 1) := by decide +kernel
theorem dX14_readFunction_237 : decode cX14_readFunction 237 = .ok (.imul, 1) := by decide +kernel
theorem dX14_readFunction_238 : decode cX14_readFunction 238 = .ok (.iload 4, 2) := by decide +kernel
theorem dX14_readFunction_240 : decode cX14_readFunction 240 = .ok (.iadd, 1) := by decide +kernel
theorem dX14_readFunction_241 : decode cX14_readFunction 241 = .ok (.iaload, 1) := by decide +kernel
theorem dX14_readFunction_242 : decode cX14_readFunction 242 = .ok (.iload_n 3, 1) := by decide +kernel
theorem dX14_readFunction_243 : decode cX14_readFunction 243 = .ok (.if_icmp .ne 13, 3) := by decide +kernel
theorem dX14_readFunction_246 : decode cX14_readFunction 246 = .ok (.aload_n 0, 1) := by decide +kernel
theorem dX14_readFunction_247 : decode cX14_readFunction 247 = .ok (.iconst 2, 1) := by decide +kernel
theorem dX14_readFunction_248 : decode cX14_readFunction 248 = .ok (.aload_n 0, 1) := by decide +kernel
theorem dX14_readFunction_249 : decode cX14_readFunction 249 = .ok (.getfield 110, 3) := by decide +kernel
theorem dX14_readFunction_252 : decode cX14_readFunction 252 = .ok (.invokevirtual 144, 3) := by decide +kernel
theorem dX14_readFunction_255 : decode cX14_readFunction 255 = .ok (.athrow, 1) := by decide +kernel
theorem dX14_readFunction_256 : decode cX14_readFunction 256 = .ok (.iinc 4 1, 3) := by decide +kernel
theorem dX14_readFunction_259 : decode cX14_readFunction 259 = .ok (.goto (-45), 3) := by decide +kernel
theorem dX14_readFunction_262 : decode cX14_readFunction 262 = .ok (.aload_n 0, 1) := by decide +kernel
theorem dX14_readFunction_263 : decode cX14_readFunction 263 = .ok (.getfield 23, 3) := by decide +kernel
theorem dX14_readFunction_266 : decode cX14_readFunction 266 = .ok (.getfield 196, 3) := by decide +kernel
theorem dX14_readFunction_269 : decode cX14_readFunction 269 = .ok (.iload_n 1, 1) := by decide +kernel
theorem dX14_readFunction_270 : decode cX14_readFunction 270 = .ok (.iaload, 1) := by decide +kernel
theorem dX14_readFunction_271 : decode cX14_readFunction 271 = .ok (.iconst 3, 1) := by decide +kernel
theorem dX14_readFunction_272 : decode cX14_readFunction 272 = .ok (.if_icmp .ne 13, 3) := by decide +kernel
theorem dX14_readFunction_275 : decode cX14_readFunction 275 = .ok (.aload_n 0, 1) := by decide +kernel
theorem dX14_readFunction_276 : decode cX14_readFunction 276 = .ok (.iconst 3, 1) := by decide +kernel
theorem dX14_readFunction_277 : decode cX14_readFunction 277 = .ok (.aload_n 0, 1) := by decide +kernel
theorem dX14_readFunction_278 : decode cX14_readFunction 278 = .ok (.getfield 110, 3) := by decide +kernel
theorem dX14_readFunction_281 : decode cX14_readFunction 281 = .ok (.invokevirtual 144, 3) := by decide +kernel
theorem dX14_readFunction_284 : decode cX14_readFunction 284 = .ok (.athrow, 1) := by decide +kernel
theorem dX14_readFunction_285 : decode cX14_readFunction 285 = .ok (.aload_n 0, 1) := by decide +kernel
theorem dX14_readFunction_286 : decode cX14_readFunction 286 = .ok (.getfield 23, 3) := by decide +kernel
theorem dX14_readFunction_289 : decode cX14_readFunction 289 = .ok (.getfield 228, 3) := by decide +kernel
theorem dX14_readFunction_292 : decode cX14_readFunction 292 = .ok (.iconst 3, 1) := by decide +kernel
theorem dX14_readFunction_293 : decode cX14_readFunction 293 = .ok (.iload_n 1, 1) := by decide +kernel
theorem dX14_readFunction_294 : decode cX14_readFunction 294 = .ok (.imul, 1) := by decide +kernel
theorem dX14_readFunction_295 : decode cX14_readFunction 295 = .ok (.aload_n 0, 1) := by decide +kernel
theorem dX14_readFunction_296 : decode cX14_readFunction 296 = .ok (.getfield 23, 3) := by decide +kernel
theorem dX14_readFunction_299 : decode cX14_readFunction 299 = .ok (.getfield 196, 3) := by decide +kernel
theorem dX14_readFunction_302 : decode cX14_readFunction 302 = .ok (.iload_n 1, 1) := by decide +kernel
theorem dX14_readFunction_303 : decode cX14_readFunction 303 = .ok (.iaload, 1) := by decide +kernel
theorem dX14_readFunction_304 : decode cX14_readFunction 304 = .ok (.iadd, 1) := by decide +kernel
theorem dX14_readFunction_305 : decode cX14_readFunction 305 = .ok (.iload_n 3, 1) := by decide +kernel
theorem dX14_readFunction_306 : decode cX14_readFunction 306 = .ok (.iastore, 1) := by decide +kernel
theorem dX14_readFunction_307 : decode cX14_readFunction 307 = .ok (.aload_n 0, 1) := by decide +kernel
theorem dX14_readFunction_308 : decode cX14_readFunction 308 = .ok (.getfield 23, 3) := by decide +kernel
theorem dX14_readFunction_311 : decode cX14_readFunction 311 = .ok (.getfield 196, 3) := by decide +kernel
theorem dX14_readFunction_314 : decode cX14_readFunction 314 = .ok (.iload_n 1, 1) := by decide +kernel
theorem dX14_readFunction_315 : decode cX14_readFunction 315 = .ok (.dup2, 1) := by decide +kernel
theorem dX14_readFunction_316 : decode cX14_readFunction 316 = .ok (.iaload, 1) := by decide +kernel
theorem dX14_readFunction_317 : decode cX14_readFunction 317 = .ok (.iconst 1, 1) := by decide +kernel
theorem dX14_readFunction_318 : decode cX14_readFunction 318 = .ok (.iadd, 1) := by decide +kernel
theorem dX14_readFunction_319 : decode cX14_readFunction 319 = .ok (.iastore, 1) := by decide +kernel
theorem dX14_readFunction_320 : decode cX14_readFunction 320 = .ok (.aload_n 0, 1) := by decide +kernel
theorem dX14_readFunction_321 : decode cX14_readFunction 321 = .ok (.invokevirtual 147, 3) := by decide +kernel
theorem dX14_readFunction_324 : decode cX14_readFunction 324 = .ok (.aload_n 0, 1) := by decide +kernel
theorem dX14_readFunction_325 : decode cX14_readFunction 325 = .ok (.bipush 44, 2) := by decide +kernel
theorem dX14_readFunction_327 : decode cX14_readFunction 327 = .ok (.invokevirtual 141, 3) := by decide +kernel
theorem dX14_readFunction_330 : decode cX14_readFunction 330 = .ok (.istore_n 2, 1) := by decide +kernel
theorem dX14_readFunction_331 : decode cX14_readFunction 331 = .ok (.iload_n 2, 1) := by decide +kernel
theorem dX14_readFunction_332 : decode cX14_readFunction 332 = .ok (.ifCond .eq 7, 3) := by decide +kernel
theorem dX14_readFunction_335 : decode cX14_readFunction 335 = .ok (.aload_n 0, 1) := by decide +kernel
theorem dX14_readFunction_336 : decode cX14_readFunction 336 = .ok (.invokevirtual 147, 3) := by decide +kernel
theorem dX14_readFunction_339 : decode cX14_readFunction 339 = .ok (.goto (-157), 3) := by decide +kernel
theorem dX14_readFunction_342 : decode cX14_readFunction 342 = .ok (.aload_n 0, 1) := by decide +kernel
theorem dX14_readFunction_343 : decode cX14_readFunction 343 = .ok (.bipush 41, 2) := by decide +kernel
theorem dX14_readFunction_345 : decode cX14_readFunction 345 = .ok (.invokevirtual 221, 3) := by decide +kernel
theorem dX14_readFunction_348 : decode cX14_readFunction 348 = .ok (.aload_n 0, 1) := by decide +kernel
theorem dX14_readFunction_349 : decode cX14_readFunction 349 = .ok (.getfield 23, 3) := by decide +kernel
theorem dX14_readFunction_352 : decode cX14_readFunction 352 = .ok (.getfield 230, 3) := by decide +kernel
theorem dX14_readFunction_355 : decode cX14_readFunction 355 = .ok (.iload_n 1, 1) := by decide +kernel
theorem dX14_readFunction_356 : decode cX14_readFunction 356 = .ok (.aload_n 0, 1) := by decide +kernel
theorem dX14_readFunction_357 : decode cX14_readFunction 357 = .ok (.getfield 23, 3) := by decide +kernel
theorem dX14_readFunction_360 : decode cX14_readFunction 360 = .ok (.getfield 171, 3) := by decide +kernel
theorem dX14_readFunction_363 : decode cX14_readFunction 363 = .ok (.iastore, 1) := by decide +kernel
theorem dX14_readFunction_364 : decode cX14_readFunction 364 = .ok (.aload_n 0, 1) := by decide +kernel
theorem dX14_readFunction_365 : decode cX14_readFunction 365 = .ok (.iload_n 1, 1) := by decide +kernel
theorem dX14_readFunction_366 : decode cX14_readFunction 366 = .ok (.iconst (-1), 1) := by decide +kernel
theorem dX14_readFunction_367 : decode cX14_readFunction 367 = .ok (.invokevirtual 233, 3) := by decide +kernel
theorem dX14_readFunction_370 : decode cX14_readFunction 370 = .ok (.pop, 1) := by decide +kernel
theorem dX14_readFunction_371 : decode cX14_readFunction 371 = .ok (.aload_n 0, 1) := by decide +kernel
theorem dX14_readFunction_372 : decode cX14_readFunction 372 = .ok (.getfield 23, 3) := by decide +kernel
theorem dX14_readFunction_375 : decode cX14_readFunction 375 = .ok (.getfield 237, 3) := by decide +kernel
theorem dX14_readFunction_378 : decode cX14_readFunction 378 = .ok (.iload_n 1, 1) := by decide +kernel
theorem dX14_readFunction_379 : decode cX14_readFunction 379 = .ok (.aload_n 0, 1) := by decide +kernel
theorem dX14_readFunction_380 : decode cX14_readFunction 380 = .ok (.getfield 23, 3) := by decide +kernel
theorem dX14_readFunction_383 : decode cX14_readFunction 383 = .ok (.getfield 171, 3) := by decide +kernel
theorem dX14_readFunction_386 : decode cX14_readFunction 386 = .ok (.aload_n 0, 1) := by decide +kernel
theorem dX14_readFunction_387 : decode cX14_readFunction 387 = .ok (.getfield 23, 3) := by decide +kernel
theorem dX14_readFunction_390 : decode cX14_readFunction 390 = .ok (.getfield 230, 3) := by decide +kernel
theorem dX14_readFunction_393 : decode cX14_readFunction 393 = .ok (.iload_n 1, 1) := by decide +kernel
theorem dX14_readFunction_394 : decode cX14_readFunction 394 = .ok (.iaload, 1) := by decide +kernel
theorem dX14_readFunction_395 : decode cX14_readFunction 395 = .ok (.isub, 1) := by decide +kernel
theorem dX14_readFunction_396 : decode cX14_readFunction 396 = .ok (.iastore, 1) := by decide +kernel
theorem dX14_readFunction_397 : decode cX14_readFunction 397 = .ok (.return_, 1) := by decide +kernel
theorem dX14_feed_0 : decode cX14_feed 0 = .ok (.aload_n 0, 1) := by decide +kernel
theorem dX14_feed_1 : decode cX14_feed 1 = .ok (.iconst 0, 1) := by decide +kernel
theorem dX14_feed_2 : decode cX14_feed 2 = .ok (.putfield 76, 3) := by decide +kernel
theorem dX14_feed_5 : decode cX14_feed 5 = .ok (.aload_n 0, 1) := by decide +kernel
theorem dX14_feed_6 : decode cX14_feed 6 = .ok (.getfield 304, 3) := by decide +kernel
theorem dX14_feed_9 : decode cX14_feed 9 = .ok (.bipush 20, 2) := by decide +kernel
theorem dX14_feed_11 : decode cX14_feed 11 = .ok (.iadd, 1) := by decide +kernel
theorem dX14_feed_12 : decode cX14_feed 12 = .ok (.sipush 600, 3) := by decide +kernel
theorem dX14_feed_15 : decode cX14_feed 15 = .ok (.if_icmp .le 5, 3) := by decide +kernel
theorem dX14_feed_18 : decode cX14_feed 18 = .ok (.iconst (-1), 1) := by decide +kernel
theorem dX14_feed_19 : decode cX14_feed 19 = .ok (.ireturn, 1) := by decide +kernel
theorem dX14_feed_20 : decode cX14_feed 20 = .ok (.iconst 0, 1) := by decide +kernel
theorem dX14_feed_21 : decode cX14_feed 21 = .ok (.istore 6, 2) := by decide +kernel
theorem dX14_feed_23 : decode cX14_feed 23 = .ok (.iload 6, 2) := by decide +kernel
theorem dX14_feed_25 : decode cX14_feed 25 = .ok (.bipush 20, 2) := by decide +kernel
theorem dX14_feed_27 : decode cX14_feed 27 = .ok (.if_icmp .ge 90, 3) := by decide +kernel
theorem dX14_feed_30 : decode cX14_feed 30 = .ok (.iload 6, 2) := by decide +kernel
theorem dX14_feed_32 : decode cX14_feed 32 = .ok (.iconst 4, 1) := by decide +kernel
theorem dX14_feed_33 : decode cX14_feed 33 = .ok (.if_icmp .ge 7, 3) := by decide +kernel
theorem dX14_feed_36 : decode cX14_feed 36 = .ok (.iload_n 1, 1) := by decide +kernel
theorem dX14_feed_37 : decode cX14_feed 37 = .ok (.goto 39, 3) := by decide +kernel
theorem dX14_feed_40 : decode cX14_feed 40 = .ok (.iload 6, 2) := by decide +kernel
theorem dX14_feed_42 : decode cX14_feed 42 = .ok (.bipush 8, 2) := by decide +kernel
theorem dX14_feed_44 : decode cX14_feed 44 = .ok (.if_icmp .ge 7, 3) := by decide +kernel
theorem dX14_feed_47 : decode cX14_feed 47 = .ok (.iload_n 2, 1) := by decide +kernel
theorem dX14_feed_48 : decode cX14_feed 48 = .ok (.goto 28, 3) := by decide +kernel
theorem dX14_feed_51 : decode cX14_feed 51 = .ok (.iload 6, 2) := by decide +kernel
theorem dX14_feed_53 : decode cX14_feed 53 = .ok (.bipush 12, 2) := by decide +kernel
theorem dX14_feed_55 : decode cX14_feed 55 = .ok (.if_icmp .ge 7, 3) := by decide +kernel
theorem dX14_feed_58 : decode cX14_feed 58 = .ok (.iload_n 3, 1) := by decide +kernel
theorem dX14_feed_59 : decode cX14_feed 59 = .ok (.goto 17, 3) := by decide +kernel
theorem dX14_feed_62 : decode cX14_feed 62 = .ok (.iload 6, 2) := by decide +kernel
theorem dX14_feed_64 : decode cX14_feed 64 = .ok (.bipush 16, 2) := by decide +kernel
theorem dX14_feed_66 : decode cX14_feed 66 = .ok (.if_icmp .ge 8, 3) := by decide +kernel
theorem dX14_feed_69 : decode cX14_feed 69 = .ok (.iload 4, 2) := by decide +kernel
theorem dX14_feed_71 : decode cX14_feed 71 = .ok (.goto 5, 3) := by decide +kernel
theorem dX14_feed_74 : decode cX14_feed 74 = .ok (.iload 5, 2) := by decide +kernel
theorem dX14_feed_76 : decode cX14_feed 76 = .ok (.istore 7, 2) := by decide +kernel
theorem dX14_feed_78 : decode cX14_feed 78 = .ok (.aload_n 0, 1) := by decide +kernel
theorem dX14_feed_79 : decode cX14_feed 79 = .ok (.getfield 33, 3) := by decide +kernel
theorem dX14_feed_82 : decode cX14_feed 82 = .ok (.aload_n 0, 1) := by decide +kernel
theorem dX14_feed_83 : decode cX14_feed 83 = .ok (.getfield 304, 3) := by decide +kernel
theorem dX14_feed_86 : decode cX14_feed 86 = .ok (.iload 7, 2) := by decide +kernel
theorem dX14_feed_88 : decode cX14_feed 88 = .ok (.bipush 24, 2) := by decide +kernel
theorem dX14_feed_90 : decode cX14_feed 90 = .ok (.bipush 8, 2) := by decide +kernel
theorem dX14_feed_92 : decode cX14_feed 92 = .ok (.iload 6, 2) := by decide +kernel
theorem dX14_feed_94 : decode cX14_feed 94 = .ok (.iconst 4, 1) := by decide +kernel
theorem dX14_feed_95 : decode cX14_feed 95 = .ok (.irem, 1) := by decide +kernel
theorem dX14_feed_96 : decode cX14_feed 96 = .ok (.imul, 1) := by decide +kernel
theorem dX14_feed_97 : decode cX14_feed 97 = .ok (.isub, 1) := by decide +kernel
theorem dX14_feed_98 : decode cX14_feed 98 = .ok (.ishr, 1) := by decide +kernel
theorem dX14_feed_99 : decode cX14_feed 99 = .ok (.i2b, 1) := by decide +kernel
theorem dX14_feed_100 : decode cX14_feed 100 = .ok (.bastore, 1) := by decide +kernel
theorem dX14_feed_101 : decode cX14_feed 101 = .ok (.aload_n 0, 1) := by decide +kernel
theorem dX14_feed_102 : decode cX14_feed 102 = .ok (.dup, 1) := by decide +kernel
theorem dX14_feed_103 : decode cX14_feed 103 = .ok (.getfield 304, 3) := by decide +kernel
theorem dX14_feed_106 : decode cX14_feed 106 = .ok (.iconst 1, 1) := by decide +kernel
theorem dX14_feed_107 : decode cX14_feed 107 = .ok (.iadd, 1) := by decide +kernel
theorem dX14_feed_108 : decode cX14_feed 108 = .ok (.putfield 304, 3) := by decide +kernel
theorem dX14_feed_111 : decode cX14_feed 111 = .ok (.iinc 6 1, 3) := by decide +kernel
theorem dX14_feed_114 : decode cX14_feed 114 = .ok (.goto (-91), 3) := by decide +kernel
theorem dX14_feed_117 : decode cX14_feed 117 = .ok (.aload_n 0, 1) := by decide +kernel
theorem dX14_feed_118 : decode cX14_feed 118 = .ok (.getfield 304, 3) := by decide +kernel
theorem dX14_feed_121 : decode cX14_feed 121 = .ok (.ireturn, 1) := by decide +kernel
theorem dX14_program_0 : decode cX14_program 0 = .ok (.aload_n 0, 1) := by decide +kernel
theorem dX14_program_1 : decode cX14_program 1 = .ok (.iconst 0, 1) := by decide +kernel
theorem dX14_program_2 : decode cX14_program 2 = .ok (.putfield 76, 3) := by decide +kernel
theorem dX14_program_5 : decode cX14_program 5 = .ok (.iload_n 1, 1) := by decide +kernel
theorem dX14_program_6 : decode cX14_program 6 = .ok (.ifCond .lt 11, 3) := by decide +kernel
theorem dX14_program_9 : decode cX14_program 9 = .ok (.iload_n 1, 1) := by decide +kernel
theorem dX14_program_10 : decode cX14_program 10 = .ok (.aload_n 0, 1) := by decide +kernel
theorem dX14_program_11 : decode cX14_program 11 = .ok (.getfield 304, 3) := by decide +kernel
theorem dX14_program_14 : decode cX14_program 14 = .ok (.if_icmp .le 9, 3) := by decide +kernel
theorem dX14_program_17 : decode cX14_program 17 = .ok (.aload_n 0, 1) := by decide +kernel
theorem dX14_program_18 : decode cX14_program 18 = .ok (.iconst 2, 1) := by decide +kernel
theorem dX14_program_19 : decode cX14_program 19 = .ok (.invokevirtual 307, 3) := by decide +kernel
theorem dX14_program_22 : decode cX14_program 22 = .ok (.ireturn, 1) := by decide +kernel
theorem dX14_program_23 : decode cX14_program 23 = .ok (.aload_n 0, 1) := by decide +kernel
theorem dX14_program_24 : decode cX14_program 24 = .ok (.iload_n 1, 1) := by decide +kernel
theorem dX14_program_25 : decode cX14_program 25 = .ok (.putfield 88, 3) := by decide +kernel
theorem dX14_program_28 : decode cX14_program 28 = .ok (.aload_n 0, 1) := by decide +kernel
theorem dX14_program_29 : decode cX14_program 29 = .ok (.iconst 0, 1) := by decide +kernel
theorem dX14_program_30 : decode cX14_program 30 = .ok (.putfield 304, 3) := by decide +kernel
theorem dX14_program_33 : decode cX14_program 33 = .ok (.aload_n 0, 1) := by decide +kernel
theorem dX14_program_34 : decode cX14_program 34 = .ok (.iconst 0, 1) := by decide +kernel
theorem dX14_program_35 : decode cX14_program 35 = .ok (.putfield 103, 3) := by decide +kernel
theorem dX14_program_38 : decode cX14_program 38 = .ok (.aload_n 0, 1) := by decide +kernel
theorem dX14_program_39 : decode cX14_program 39 = .ok (.iconst 0, 1) := by decide +kernel
theorem dX14_program_40 : decode cX14_program 40 = .ok (.putfield 310, 3) := by decide +kernel
theorem dX14_program_43 : decode cX14_program 43 = .ok (.aload_n 0, 1) := by decide +kernel
theorem dX14_program_44 : decode cX14_program 44 = .ok (.invokevirtual 313, 3) := by decide +kernel
theorem dX14_program_47 : decode cX14_program 47 = .ok (.goto 27, 3) := by decide +kernel
theorem dX14_program_50 : decode cX14_program 50 = .ok (.astore_n 2, 1) := by decide +kernel
theorem dX14_program_51 : decode cX14_program 51 = .ok (.aload_n 0, 1) := by decide +kernel
theorem dX14_program_52 : decode cX14_program 52 = .ok (.aload_n 2, 1) := by decide +kernel
theorem dX14_program_53 : decode cX14_program 53 = .ok (.getfield 82, 3) := by decide +kernel
theorem dX14_program_56 : decode cX14_program 56 = .ok (.putfield 310, 3) := by decide +kernel
theorem dX14_program_59 : decode cX14_program 59 = .ok (.aload_n 0, 1) := by decide +kernel
theorem dX14_program_60 : decode cX14_program 60 = .ok (.iconst 4, 1) := by decide +kernel
theorem dX14_program_61 : decode cX14_program 61 = .ok (.putfield 79, 3) := by decide +kernel
theorem dX14_program_64 : decode cX14_program 64 = .ok (.aload_n 0, 1) := by decide +kernel
theorem dX14_program_65 : decode cX14_program 65 = .ok (.aload_n 2, 1) := by decide +kernel
theorem dX14_program_66 : decode cX14_program 66 = .ok (.getfield 85, 3) := by decide +kernel
theorem dX14_program_69 : decode cX14_program 69 = .ok (.putfield 9, 3) := by decide +kernel
theorem dX14_program_72 : decode cX14_program 72 = .ok (.iconst (-1), 1) := by decide +kernel
theorem dX14_program_73 : decode cX14_program 73 = .ok (.ireturn, 1) := by decide +kernel
theorem dX14_program_74 : decode cX14_program 74 = .ok (.aload_n 0, 1) := by decide +kernel
theorem dX14_program_75 : decode cX14_program 75 = .ok (.invokevirtual 316, 3) := by decide +kernel
theorem dX14_program_78 : decode cX14_program 78 = .ok (.aload_n 0, 1) := by decide +kernel
theorem dX14_program_79 : decode cX14_program 79 = .ok (.getfield 20, 3) := by decide +kernel
theorem dX14_program_82 : decode cX14_program 82 = .ok (.astore_n 2, 1) := by decide +kernel
theorem dX14_program_83 : decode cX14_program 83 = .ok (.aload_n 0, 1) := by decide +kernel
theorem dX14_program_84 : decode cX14_program 84 = .ok (.aload_n 0, 1) := by decide +kernel
theorem dX14_program_85 : decode cX14_program 85 = .ok (.getfield 16, 3) := by decide +kernel
theorem dX14_program_88 : decode cX14_program 88 = .ok (.putfield 20, 3) := by decide +kernel
theorem dX14_program_91 : decode cX14_program 91 = .ok (.aload_n 0, 1) := by decide +kernel
theorem dX14_program_92 : decode cX14_program 92 = .ok (.aload_n 0, 1) := by decide +kernel
theorem dX14_program_93 : decode cX14_program 93 = .ok (.getfield 23, 3) := by decide +kernel
theorem dX14_program_96 : decode cX14_program 96 = .ok (.putfield 16, 3) := by decide +kernel
theorem dX14_program_99 : decode cX14_program 99 = .ok (.aload_n 0, 1) := by decide +kernel
theorem dX14_program_100 : decode cX14_program 100 = .ok (.aload_n 2, 1) := by decide +kernel
theorem dX14_program_101 : decode cX14_program 101 = .ok (.putfield 23, 3) := by decide +kernel
theorem dX14_program_104 : decode cX14_program 104 = .ok (.aload_n 0, 1) := by decide +kernel
theorem dX14_program_105 : decode cX14_program 105 = .ok (.aload_n 0, 1) := by decide +kernel
theorem dX14_program_106 : decode cX14_program 106 = .ok (.getfield 318, 3) := by decide +kernel
theorem dX14_program_109 : decode cX14_program 109 = .ok (.putfield 321, 3) := by decide +kernel
theorem dX14_program_112 : decode cX14_program 112 = .ok (.aload_n 0, 1) := by decide +kernel
theorem dX14_program_113 : decode cX14_program 113 = .ok (.iconst 1, 1) := by decide +kernel
theorem dX14_program_114 : decode cX14_program 114 = .ok (.putfield 318, 3) := by decide +kernel
theorem dX14_program_117 : decode cX14_program 117 = .ok (.aload_n 0, 1) := by decide +kernel
theorem dX14_program_118 : decode cX14_program 118 = .ok (.iconst 0, 1) := by decide +kernel
theorem dX14_program_119 : decode cX14_program 119 = .ok (.putfield 324, 3) := by decide +kernel
theorem dX14_program_122 : decode cX14_program 122 = .ok (.aload_n 0, 1) := by decide +kernel
theorem dX14_program_123 : decode cX14_program 123 = .ok (.iconst 0, 1) := by decide +kernel
theorem dX14_program_124 : decode cX14_program 124 = .ok (.putfield 327, 3) := by decide +kernel
theorem dX14_program_127 : decode cX14_program 127 = .ok (.aload_n 0, 1) := by decide +kernel
theorem dX14_program_128 : decode cX14_program 128 = .ok (.iconst 0, 1) := by decide +kernel
theorem dX14_program_129 : decode cX14_program 129 = .ok (.putfield 330, 3) := by decide +kernel
theorem dX14_program_132 : decode cX14_program 132 = .ok (.aload_n 0, 1) := by decide +kernel
theorem dX14_program_133 : decode cX14_program 133 = .ok (.aload_n 0, 1) := by decide +kernel
theorem dX14_program_134 : decode cX14_program 134 = .ok (.getfield 16, 3) := by decide +kernel
theorem dX14_program_137 : decode cX14_program 137 = .ok (.getfield 168, 3) := by decide +kernel
theorem dX14_program_140 : decode cX14_program 140 = .ok (.invokevirtual 333, 3) := by decide +kernel
theorem dX14_program_143 : decode cX14_program 143 = .ok (.ireturn, 1) := by decide +kernel
theorem dX14_fault_0 : decode cX14_fault 0 = .ok (.aload_n 0, 1) := by decide +kernel
theorem dX14_fault_1 : decode cX14_fault 1 = .ok (.iconst 0, 1) := by decide +kernel
theorem dX14_fault_2 : decode cX14_fault 2 = .ok (.putfield 76, 3) := by decide +kernel
theorem dX14_fault_5 : decode cX14_fault 5 = .ok (.aload_n 0, 1) := by decide +kernel
theorem dX14_fault_6 : decode cX14_fault 6 = .ok (.getfield 310, 3) := by decide +kernel
theorem dX14_fault_9 : decode cX14_fault 9 = .ok (.ireturn, 1) := by decide +kernel
theorem dX14_where_0 : decode cX14_where 0 = .ok (.aload_n 0, 1) := by decide +kernel
theorem dX14_where_1 : decode cX14_where 1 = .ok (.iconst 0, 1) := by decide +kernel
theorem dX14_where_2 : decode cX14_where 2 = .ok (.putfield 76, 3) := by decide +kernel
theorem dX14_where_5 : decode cX14_where 5 = .ok (.aload_n 0, 1) := by decide +kernel
theorem dX14_where_6 : decode cX14_where 6 = .ok (.getfield 9, 3) := by decide +kernel
theorem dX14_where_9 : decode cX14_where 9 = .ok (.ireturn, 1) := by decide +kernel
theorem dX14_isFunction_0 : decode cX14_isFunction 0 = .ok (.aload_n 0, 1) := by decide +kernel
theorem dX14_isFunction_1 : decode cX14_isFunction 1 = .ok (.getfield 318, 3) := by decide +kernel
theorem dX14_isFunction_4 : decode cX14_isFunction 4 = .ok (.ifCond .eq 22, 3) := by decide +kernel
theorem dX14_isFunction_7 : decode cX14_isFunction 7 = .ok (.iload_n 1, 1) := by decide +kernel
theorem dX14_isFunction_8 : decode cX14_isFunction 8 = .ok (.ifCond .lt 18, 3) := by decide +kernel
theorem dX14_isFunction_11 : decode cX14_isFunction 11 = .ok (.iload_n 1, 1) := by decide +kernel
theorem dX14_isFunction_12 : decode cX14_isFunction 12 = .ok (.aload_n 0, 1) := by decide +kernel
theorem dX14_isFunction_13 : decode cX14_isFunction 13 = .ok (.getfield 16, 3) := by decide +kernel
theorem dX14_isFunction_16 : decode cX14_isFunction 16 = .ok (.getfield 168, 3) := by decide +kernel
theorem dX14_isFunction_19 : decode cX14_isFunction 19 = .ok (.if_icmp .ge 7, 3) := by decide +kernel
theorem dX14_isFunction_22 : decode cX14_isFunction 22 = .ok (.iconst 1, 1) := by decide +kernel
theorem dX14_isFunction_23 : decode cX14_isFunction 23 = .ok (.goto 4, 3) := by decide +kernel
theorem dX14_isFunction_26 : decode cX14_isFunction 26 = .ok (.iconst 0, 1) := by decide +kernel
theorem dX14_isFunction_27 : decode cX14_isFunction 27 = .ok (.ireturn, 1) := by decide +kernel
theorem dX14_isLine_0 : decode cX14_isLine 0 = .ok (.aload_n 0, 1) := by decide +kernel
theorem dX14_isLine_1 : decode cX14_isLine 1 = .ok (.getfield 318, 3) := by decide +kernel
theorem dX14_isLine_4 : decode cX14_isLine 4 = .ok (.ifCond .eq 22, 3) := by decide +kernel
theorem dX14_isLine_7 : decode cX14_isLine 7 = .ok (.iload_n 1, 1) := by decide +kernel
theorem dX14_isLine_8 : decode cX14_isLine 8 = .ok (.ifCond .lt 18, 3) := by decide +kernel
theorem dX14_isLine_11 : decode cX14_isLine 11 = .ok (.iload_n 1, 1) := by decide +kernel
theorem dX14_isLine_12 : decode cX14_isLine 12 = .ok (.aload_n 0, 1) := by decide +kernel
theorem dX14_isLine_13 : decode cX14_isLine 13 = .ok (.getfield 16, 3) := by decide +kernel
theorem dX14_isLine_16 : decode cX14_isLine 16 = .ok (.getfield 171, 3) := by decide +kernel
theorem dX14_isLine_19 : decode cX14_isLine 19 = .ok (.if_icmp .ge 7, 3) := by decide +kernel
theorem dX14_isLine_22 : decode cX14_isLine 22 = .ok (.iconst 1, 1) := by decide +kernel
theorem dX14_isLine_23 : decode cX14_isLine 23 = .ok (.goto 4, 3) := by decide +kernel
theorem dX14_isLine_26 : decode cX14_isLine 26 = .ok (.iconst 0, 1) := by decide +kernel
theorem dX14_isLine_27 : decode cX14_isLine 27 = .ok (.ireturn, 1) := by decide +kernel
theorem dX14_function_0 : decode cX14_function 0 = .ok (.aload_n 0, 1) := by decide +kernel
theorem dX14_function_1 : decode cX14_function 1 = .ok (.iconst 0, 1) := by decide +kernel
theorem dX14_function_2 : decode cX14_function 2 = .ok (.putfield 76, 3) := by decide +kernel
theorem dX14_function_5 : decode cX14_function 5 = .ok (.aload_n 0, 1) := by decide +kernel
theorem dX14_function_6 : decode cX14_function 6 = .ok (.iload_n 1, 1) := by decide +kernel
theorem dX14_function_7 : decode cX14_function 7 = .ok (.invokevirtual 336, 3) := by decide +kernel
theorem dX14_function_10 : decode cX14_function 10 = .ok (.ifCond .ne 5, 3) := by decide +kernel
theorem dX14_function_13 : decode cX14_function 13 = .ok (.iconst (-1), 1) := by decide +kernel
theorem dX14_function_14 : decode cX14_function 14 = .ok (.ireturn, 1) := by decide +kernel
theorem dX14_function_15 : decode cX14_function 15 = .ok (.iload_n 2, 1) := by decide +kernel
theorem dX14_function_16 : decode cX14_function 16 = .ok (.tableswitch 72 0 3 #[32, 42, 52, 62], 32) := by decide +kernel
theorem dX14_function_48 : decode cX14_function 48 = .ok (.aload_n 0, 1) := by decide +kernel
theorem dX14_function_49 : decode cX14_function 49 = .ok (.getfield 16, 3) := by decide +kernel
theorem dX14_function_52 : decode cX14_function 52 = .ok (.getfield 196, 3) := by decide +kernel
theorem dX14_function_55 : decode cX14_function 55 = .ok (.iload_n 1, 1) := by decide +kernel
theorem dX14_function_56 : decode cX14_function 56 = .ok (.iaload, 1) := by decide +kernel
theorem dX14_function_57 : decode cX14_function 57 = .ok (.ireturn, 1) := by decide +kernel
theorem dX14_function_58 : decode cX14_function 58 = .ok (.aload_n 0, 1) := by decide +kernel
theorem dX14_function_59 : decode cX14_function 59 = .ok (.getfield 16, 3) := by decide +kernel
theorem dX14_function_62 : decode cX14_function 62 = .ok (.getfield 230, 3) := by decide +kernel
theorem dX14_function_65 : decode cX14_function 65 = .ok (.iload_n 1, 1) := by decide +kernel
theorem dX14_function_66 : decode cX14_function 66 = .ok (.iaload, 1) := by decide +kernel
theorem dX14_function_67 : decode cX14_function 67 = .ok (.ireturn, 1) := by decide +kernel
theorem dX14_function_68 : decode cX14_function 68 = .ok (.aload_n 0, 1) := by decide +kernel
theorem dX14_function_69 : decode cX14_function 69 = .ok (.getfield 16, 3) := by decide +kernel
theorem dX14_function_72 : decode cX14_function 72 = .ok (.getfield 237, 3) := by decide +kernel
theorem dX14_function_75 : decode cX14_function 75 = .ok (.iload_n 1, 1) := by decide +kernel
theorem dX14_function_76 : decode cX14_function 76 = .ok (.iaload, 1) := by decide +kernel
theorem dX14_function_77 : decode cX14_function 77 = .ok (.ireturn, 1) := by decide +kernel
theorem dX14_function_78 : decode cX14_function 78 = .ok (.aload_n 0, 1) := by decide +kernel
theorem dX14_function_79 : decode cX14_function 79 = .ok (.getfield 16, 3) := by decide +kernel
theorem dX14_function_82 : decode cX14_function 82 = .ok (.getfield 301, 3) := by decide +kernel
theorem dX14_function_85 : decode cX14_function 85 = .ok (.iload_n 1, 1) := by decide +kernel
theorem dX14_function_86 : decode cX14_function 86 = .ok (.iaload, 1) := by decide +kernel
theorem dX14_function_87 : decode cX14_function 87 = .ok (.ireturn, 1) := by decide +kernel
theorem dX14_function_88 : decode cX14_function 88 = .ok (.iconst (-1), 1) := by decide +kernel
theorem dX14_function_89 : decode cX14_function 89 = .ok (.ireturn, 1) := by decide +kernel
theorem dX14_name_0 : decode cX14_name 0 = .ok (.aload_n 0, 1) := by decide +kernel
theorem dX14_name_1 : decode cX14_name 1 = .ok (.aload_n 0, 1) := by decide +kernel
theorem dX14_name_2 : decode cX14_name 2 = .ok (.iload_n 1, 1) := by decide +kernel
theorem dX14_name_3 : decode cX14_name 3 = .ok (.invokevirtual 336, 3) := by decide +kernel
theorem dX14_name_6 : decode cX14_name 6 = .ok (.ifCond .eq 20, 3) := by decide +kernel
theorem dX14_name_9 : decode cX14_name 9 = .ok (.iload_n 2, 1) := by decide +kernel
theorem dX14_name_10 : decode cX14_name 10 = .ok (.ifCond .lt 16, 3) := by decide +kernel
theorem dX14_name_13 : decode cX14_name 13 = .ok (.iload_n 2, 1) := by decide +kernel
theorem dX14_name_14 : decode cX14_name 14 = .ok (.aload_n 0, 1) := by decide +kernel
theorem dX14_name_15 : decode cX14_name 15 = .ok (.getfield 16, 3) := by decide +kernel
theorem dX14_name_18 : decode cX14_name 18 = .ok (.getfield 218, 3) := by decide +kernel
theorem dX14_name_21 : decode cX14_name 21 = .ok (.iload_n 1, 1) := by decide +kernel
theorem dX14_name_22 : decode cX14_name 22 = .ok (.iaload, 1) := by decide +kernel
theorem dX14_name_23 : decode cX14_name 23 = .ok (.if_icmp .lt 7, 3) := by decide +kernel
theorem dX14_name_26 : decode cX14_name 26 = .ok (.iconst 1, 1) := by decide +kernel
theorem dX14_name_27 : decode cX14_name 27 = .ok (.goto 4, 3) := by decide +kernel
theorem dX14_name_30 : decode cX14_name 30 = .ok (.iconst 0, 1) := by decide +kernel
theorem dX14_name_31 : decode cX14_name 31 = .ok (.putfield 76, 3) := by decide +kernel
theorem dX14_name_34 : decode cX14_name 34 = .ok (.aload_n 0, 1) := by decide +kernel
theorem dX14_name_35 : decode cX14_name 35 = .ok (.getfield 76, 3) := by decide +kernel
theorem dX14_name_38 : decode cX14_name 38 = .ok (.ifCond .le 5, 3) := by decide +kernel
theorem dX14_name_41 : decode cX14_name 41 = .ok (.iconst 0, 1) := by decide +kernel
theorem dX14_name_42 : decode cX14_name 42 = .ok (.ireturn, 1) := by decide +kernel
theorem dX14_name_43 : decode cX14_name 43 = .ok (.bipush 96, 2) := by decide +kernel
theorem dX14_name_45 : decode cX14_name 45 = .ok (.aload_n 0, 1) := by decide +kernel
theorem dX14_name_46 : decode cX14_name 46 = .ok (.getfield 16, 3) := by decide +kernel
theorem dX14_name_49 : decode cX14_name 49 = .ok (.getfield 215, 3) := by decide +kernel
theorem dX14_name_52 : decode cX14_name 52 = .ok (.iload_n 1, 1) := by decide +kernel
theorem dX14_name_53 : decode cX14_name 53 = .ok (.laload, 1) := by decide +kernel
theorem dX14_name_54 : decode cX14_name 54 = .ok (.iconst 5, 1) := by decide +kernel
theorem dX14_name_55 : decode cX14_name 55 = .ok (.aload_n 0, 1) := by decide +kernel
theorem dX14_name_56 : decode cX14_name 56 = .ok (.getfield 16, 3) := by decide +kernel
theorem dX14_name_59 : decode cX14_name 59 = .ok (.getfield 218, 3) := by decide +kernel
theorem dX14_name_62 : decode cX14_name 62 = .ok (.iload_n 1, 1) := by decide +kernel
theorem dX14_name_63 : decode cX14_name 63 = .ok (.iaload, 1) := by decide +kernel
theorem dX14_name_64 : decode cX14_name 64 = .ok (.iconst 1, 1) := by decide +kernel
theorem dX14_name_65 : decode cX14_name 65 = .ok (.isub, 1) := by decide +kernel
theorem dX14_name_66 : decode cX14_name 66 = .ok (.iload_n 2, 1) := by decide +kernel
theorem dX14_name_67 : decode cX14_name 67 = .ok (.isub, 1) := by decide +kernel
theorem dX14_name_68 : decode cX14_name 68 = .ok (.imul, 1) := by decide +kernel
theorem dX14_name_69 : decode cX14_name 69 = .ok (.lshr, 1) := by decide +kernel
theorem dX14_name_70 : decode cX14_name 70 = .ok (.ldc2_w 339, 3) := by decide +kernel
theorem dX14_name_73 : decode cX14_name 73 = .ok (.land, 1) := by decide +kernel
theorem dX14_name_74 : decode cX14_name 74 = .ok (.l2i, 1) := by decide +kernel
theorem dX14_name_75 : decode cX14_name 75 = .ok (.iadd, 1) := by decide +kernel
theorem dX14_name_76 : decode cX14_name 76 = .ok (.ireturn, 1) := by decide +kernel
theorem dX14_line_0 : decode cX14_line 0 = .ok (.aload_n 0, 1) := by decide +kernel
theorem dX14_line_1 : decode cX14_line 1 = .ok (.iconst 0, 1) := by decide +kernel
theorem dX14_line_2 : decode cX14_line 2 = .ok (.putfield 76, 3) := by decide +kernel
theorem dX14_line_5 : decode cX14_line 5 = .ok (.aload_n 0, 1) := by decide +kernel
theorem dX14_line_6 : decode cX14_line 6 = .ok (.iload_n 1, 1) := by decide +kernel
theorem dX14_line_7 : decode cX14_line 7 = .ok (.invokevirtual 341, 3) := by decide +kernel
theorem dX14_line_10 : decode cX14_line 10 = .ok (.ifCond .ne 5, 3) := by decide +kernel
theorem dX14_line_13 : decode cX14_line 13 = .ok (.iconst (-1), 1) := by decide +kernel
theorem dX14_line_14 : decode cX14_line 14 = .ok (.ireturn, 1) := by decide +kernel
theorem dX14_line_15 : decode cX14_line 15 = .ok (.iload_n 2, 1) := by decide +kernel
theorem dX14_line_16 : decode cX14_line 16 = .ok (.tableswitch 72 0 3 #[32, 42, 52, 62], 32) := by decide +kernel
theorem dX14_line_48 : decode cX14_line 48 = .ok (.aload_n 0, 1) := by decide +kernel
theorem dX14_line_49 : decode cX14_line 49 = .ok (.getfield 16, 3) := by decide +kernel
theorem dX14_line_52 : decode cX14_line 52 = .ok (.getfield 248, 3) := by decide +kernel
theorem dX14_line_55 : decode cX14_line 55 = .ok (.iload_n 1, 1) := by decide +kernel
theorem dX14_line_56 : decode cX14_line 56 = .ok (.iaload, 1) := by decide +kernel
theorem dX14_line_57 : decode cX14_line 57 = .ok (.ireturn, 1) := by decide +kernel
theorem dX14_line_58 : decode cX14_line 58 = .ok (.aload_n 0, 1) := by decide +kernel
theorem dX14_line_59 : decode cX14_line 59 = .ok (.getfield 16, 3) := by decide +kernel
theorem dX14_line_62 : decode cX14_line 62 = .ok (.getfield 250, 3) := by decide +kernel
theorem dX14_line_65 : decode cX14_line 65 = .ok (.iload_n 1, 1) := by decide +kernel
theorem dX14_line_66 : decode cX14_line 66 = .ok (.iaload, 1) := by decide +kernel
theorem dX14_line_67 : decode cX14_line 67 = .ok (.ireturn, 1) := by decide +kernel
theorem dX14_line_68 : decode cX14_line 68 = .ok (.aload_n 0, 1) := by decide +kernel
theorem dX14_line_69 : decode cX14_line 69 = .ok (.getfield 16, 3) := by decide +kernel
theorem dX14_line_72 : decode cX14_line 72 = .ok (.getfield 253, 3) := by decide +kernel
theorem dX14_line_75 : decode cX14_line 75 = .ok (.iload_n 1, 1) := by decide +kernel
theorem dX14_line_76 : decode cX14_line 76 = .ok (.iaload, 1) := by decide +kernel
theorem dX14_line_77 : decode cX14_line 77 = .ok (.ireturn, 1) := by decide +kernel
theorem dX14_line_78 : decode cX14_line 78 = .ok (.aload_n 0, 1) := by decide +kernel
theorem dX14_line_79 : decode cX14_line 79 = .ok (.getfield 16, 3) := by decide +kernel
theorem dX14_line_82 : decode cX14_line 82 = .ok (.getfield 255, 3) := by decide +kernel
theorem dX14_line_85 : decode cX14_line 85 = .ok (.iload_n 1, 1) := by decide +kernel
theorem dX14_line_86 : decode cX14_line 86 = .ok (.iaload, 1) := by decide +kernel
theorem dX14_line_87 : decode cX14_line 87 = .ok (.ireturn, 1) := by decide +kernel
theorem dX14_line_88 : decode cX14_line 88 = .ok (.iconst (-1), 1) := by decide +kernel
theorem dX14_line_89 : decode cX14_line 89 = .ok (.ireturn, 1) := by decide +kernel
theorem dX14_run_0 : decode cX14_run 0 = .ok (.aload_n 0, 1) := by decide +kernel
theorem dX14_run_1 : decode cX14_run 1 = .ok (.iconst 0, 1) := by decide +kernel
theorem dX14_run_2 : decode cX14_run 2 = .ok (.putfield 76, 3) := by decide +kernel
theorem dX14_run_5 : decode cX14_run 5 = .ok (.aload_n 0, 1) := by decide +kernel
theorem dX14_run_6 : decode cX14_run 6 = .ok (.iload_n 1, 1) := by decide +kernel
theorem dX14_run_7 : decode cX14_run 7 = .ok (.invokevirtual 336, 3) := by decide +kernel
theorem dX14_run_10 : decode cX14_run 10 = .ok (.ifCond .ne 9, 3) := by decide +kernel
theorem dX14_run_13 : decode cX14_run 13 = .ok (.aload_n 0, 1) := by decide +kernel
theorem dX14_run_14 : decode cX14_run 14 = .ok (.iconst 1, 1) := by decide +kernel
theorem dX14_run_15 : decode cX14_run 15 = .ok (.invokevirtual 307, 3) := by decide +kernel
theorem dX14_run_18 : decode cX14_run 18 = .ok (.ireturn, 1) := by decide +kernel
theorem dX14_run_19 : decode cX14_run 19 = .ok (.iload 5, 2) := by decide +kernel
theorem dX14_run_21 : decode cX14_run 21 = .ok (.iconst 1, 1) := by decide +kernel
theorem dX14_run_22 : decode cX14_run 22 = .ok (.sipush 2000, 3) := by decide +kernel
theorem dX14_run_25 : decode cX14_run 25 = .ok (.invokestatic 407, 3) := by decide +kernel
theorem dX14_run_28 : decode cX14_run 28 = .ok (.ifCond .ne 9, 3) := by decide +kernel
theorem dX14_run_31 : decode cX14_run 31 = .ok (.aload_n 0, 1) := by decide +kernel
theorem dX14_run_32 : decode cX14_run 32 = .ok (.iconst 2, 1) := by decide +kernel
theorem dX14_run_33 : decode cX14_run 33 = .ok (.invokevirtual 307, 3) := by decide +kernel
theorem dX14_run_36 : decode cX14_run 36 = .ok (.ireturn, 1) := by decide +kernel
theorem dX14_run_37 : decode cX14_run 37 = .ok (.aload_n 0, 1) := by decide +kernel
theorem dX14_run_38 : decode cX14_run 38 = .ok (.iload_n 1, 1) := by decide +kernel
theorem dX14_run_39 : decode cX14_run 39 = .ok (.iload_n 2, 1) := by decide +kernel
theorem dX14_run_40 : decode cX14_run 40 = .ok (.iload_n 3, 1) := by decide +kernel
theorem dX14_run_41 : decode cX14_run 41 = .ok (.iload 4, 2) := by decide +kernel
theorem dX14_run_43 : decode cX14_run 43 = .ok (.iload 5, 2) := by decide +kernel
theorem dX14_run_45 : decode cX14_run 45 = .ok (.iconst (-1), 1) := by decide +kernel
theorem dX14_run_46 : decode cX14_run 46 = .ok (.invokevirtual 411, 3) := by decide +kernel
theorem dX14_run_49 : decode cX14_run 49 = .ok (.aload_n 0, 1) := by decide +kernel
theorem dX14_run_50 : decode cX14_run 50 = .ok (.getfield 40, 3) := by decide +kernel
theorem dX14_run_53 : decode cX14_run 53 = .ok (.astore 6, 2) := by decide +kernel
theorem dX14_run_55 : decode cX14_run 55 = .ok (.aload_n 0, 1) := by decide +kernel
theorem dX14_run_56 : decode cX14_run 56 = .ok (.aload_n 0, 1) := by decide +kernel
theorem dX14_run_57 : decode cX14_run 57 = .ok (.getfield 44, 3) := by decide +kernel
theorem dX14_run_60 : decode cX14_run 60 = .ok (.putfield 40, 3) := by decide +kernel
theorem dX14_run_63 : decode cX14_run 63 = .ok (.aload_n 0, 1) := by decide +kernel
theorem dX14_run_64 : decode cX14_run 64 = .ok (.aload 6, 2) := by decide +kernel
theorem dX14_run_66 : decode cX14_run 66 = .ok (.putfield 44, 3) := by decide +kernel
theorem dX14_run_69 : decode cX14_run 69 = .ok (.aload_n 0, 1) := by decide +kernel
theorem dX14_run_70 : decode cX14_run 70 = .ok (.iconst 1, 1) := by decide +kernel
theorem dX14_run_71 : decode cX14_run 71 = .ok (.putfield 330, 3) := by decide +kernel
theorem dX14_run_74 : decode cX14_run 74 = .ok (.aload_n 0, 1) := by decide +kernel
theorem dX14_run_75 : decode cX14_run 75 = .ok (.aload_n 0, 1) := by decide +kernel
theorem dX14_run_76 : decode cX14_run 76 = .ok (.getfield 40, 3) := by decide +kernel
theorem dX14_run_79 : decode cX14_run 79 = .ok (.getfield 350, 3) := by decide +kernel
theorem dX14_run_82 : decode cX14_run 82 = .ok (.invokevirtual 333, 3) := by decide +kernel
theorem dX14_run_85 : decode cX14_run 85 = .ok (.ireturn, 1) := by decide +kernel
theorem dX14_lines_0 : decode cX14_lines 0 = .ok (.iconst 0, 1) := by decide +kernel
theorem dX14_lines_1 : decode cX14_lines 1 = .ok (.istore_n 2, 1) := by decide +kernel
theorem dX14_lines_2 : decode cX14_lines 2 = .ok (.iconst 0, 1) := by decide +kernel
theorem dX14_lines_3 : decode cX14_lines 3 = .ok (.istore_n 3, 1) := by decide +kernel
theorem dX14_lines_4 : decode cX14_lines 4 = .ok (.iload_n 3, 1) := by decide +kernel
theorem dX14_lines_5 : decode cX14_lines 5 = .ok (.bipush 60, 2) := by decide +kernel
theorem dX14_lines_7 : decode cX14_lines 7 = .ok (.if_icmp .ge 27, 3) := by decide +kernel
theorem dX14_lines_10 : decode cX14_lines 10 = .ok (.iload_n 2, 1) := by decide +kernel
theorem dX14_lines_11 : decode cX14_lines 11 = .ok (.lload_n 0, 1) := by decide +kernel
theorem dX14_lines_12 : decode cX14_lines 12 = .ok (.iload_n 3, 1) := by decide +kernel
theorem dX14_lines_13 : decode cX14_lines 13 = .ok (.lshr, 1) := by decide +kernel
theorem dX14_lines_14 : decode cX14_lines 14 = .ok (.lconst 1, 1) := by decide +kernel
theorem dX14_lines_15 : decode cX14_lines 15 = .ok (.land, 1) := by decide +kernel
theorem dX14_lines_16 : decode cX14_lines 16 = .ok (.lconst 1, 1) := by decide +kernel
theorem dX14_lines_17 : decode cX14_lines 17 = .ok (.lcmp, 1) := by decide +kernel
theorem dX14_lines_18 : decode cX14_lines 18 = .ok (.ifCond .ne 7, 3) := by decide +kernel
theorem dX14_lines_21 : decode cX14_lines 21 = .ok (.iconst 1, 1) := by decide +kernel
theorem dX14_lines_22 : decode cX14_lines 22 = .ok (.goto 4, 3) := by decide +kernel
theorem dX14_lines_25 : decode cX14_lines 25 = .ok (.iconst 0, 1) := by decide +kernel
theorem dX14_lines_26 : decode cX14_lines 26 = .ok (.iadd, 1) := by decide +kernel
theorem dX14_lines_27 : decode cX14_lines 27 = .ok (.istore_n 2, 1) := by decide +kernel
theorem dX14_lines_28 : decode cX14_lines 28 = .ok (.iinc 3 1, 3) := by decide +kernel
theorem dX14_lines_31 : decode cX14_lines 31 = .ok (.goto (-27), 3) := by decide +kernel
theorem dX14_lines_34 : decode cX14_lines 34 = .ok (.iload_n 2, 1) := by decide +kernel
theorem dX14_lines_35 : decode cX14_lines 35 = .ok (.ireturn, 1) := by decide +kernel
theorem dX14_ran_0 : decode cX14_ran 0 = .ok (.aload_n 0, 1) := by decide +kernel
theorem dX14_ran_1 : decode cX14_ran 1 = .ok (.iconst 0, 1) := by decide +kernel
theorem dX14_ran_2 : decode cX14_ran 2 = .ok (.putfield 76, 3) := by decide +kernel
theorem dX14_ran_5 : decode cX14_ran 5 = .ok (.aload_n 0, 1) := by decide +kernel
theorem dX14_ran_6 : decode cX14_ran 6 = .ok (.getfield 330, 3) := by decide +kernel
theorem dX14_ran_9 : decode cX14_ran 9 = .ok (.ifCond .ne 9, 3) := by decide +kernel
theorem dX14_ran_12 : decode cX14_ran 12 = .ok (.aload_n 0, 1) := by decide +kernel
theorem dX14_ran_13 : decode cX14_ran 13 = .ok (.iconst 5, 1) := by decide +kernel
theorem dX14_ran_14 : decode cX14_ran 14 = .ok (.invokevirtual 307, 3) := by decide +kernel
theorem dX14_ran_17 : decode cX14_ran 17 = .ok (.ireturn, 1) := by decide +kernel
theorem dX14_ran_18 : decode cX14_ran 18 = .ok (.iload_n 1, 1) := by decide +kernel
theorem dX14_ran_19 : decode cX14_ran 19 = .ok (.tableswitch 112 0 5 #[37, 49, 61, 73, 85, 100], 37) := by decide +kernel
theorem dX14_ran_56 : decode cX14_ran 56 = .ok (.aload_n 0, 1) := by decide +kernel
theorem dX14_ran_57 : decode cX14_ran 57 = .ok (.aload_n 0, 1) := by decide +kernel
theorem dX14_ran_58 : decode cX14_ran 58 = .ok (.getfield 40, 3) := by decide +kernel
theorem dX14_ran_61 : decode cX14_ran 61 = .ok (.getfield 352, 3) := by decide +kernel
theorem dX14_ran_64 : decode cX14_ran 64 = .ok (.invokevirtual 333, 3) := by decide +kernel
theorem dX14_ran_67 : decode cX14_ran 67 = .ok (.ireturn, 1) := by decide +kernel
theorem dX14_ran_68 : decode cX14_ran 68 = .ok (.aload_n 0, 1) := by decide +kernel
theorem dX14_ran_69 : decode cX14_ran 69 = .ok (.aload_n 0, 1) := by decide +kernel
theorem dX14_ran_70 : decode cX14_ran 70 = .ok (.getfield 40, 3) := by decide +kernel
theorem dX14_ran_73 : decode cX14_ran 73 = .ok (.getfield 354, 3) := by decide +kernel
theorem dX14_ran_76 : decode cX14_ran 76 = .ok (.invokevirtual 333, 3) := by decide +kernel
theorem dX14_ran_79 : decode cX14_ran 79 = .ok (.ireturn, 1) := by decide +kernel
theorem dX14_ran_80 : decode cX14_ran 80 = .ok (.aload_n 0, 1) := by decide +kernel
theorem dX14_ran_81 : decode cX14_ran 81 = .ok (.aload_n 0, 1) := by decide +kernel
theorem dX14_ran_82 : decode cX14_ran 82 = .ok (.getfield 40, 3) := by decide +kernel
theorem dX14_ran_85 : decode cX14_ran 85 = .ok (.getfield 357, 3) := by decide +kernel
theorem dX14_ran_88 : decode cX14_ran 88 = .ok (.invokevirtual 333, 3) := by decide +kernel
theorem dX14_ran_91 : decode cX14_ran 91 = .ok (.ireturn, 1) := by decide +kernel
theorem dX14_ran_92 : decode cX14_ran 92 = .ok (.aload_n 0, 1) := by decide +kernel
theorem dX14_ran_93 : decode cX14_ran 93 = .ok (.aload_n 0, 1) := by decide +kernel
theorem dX14_ran_94 : decode cX14_ran 94 = .ok (.getfield 40, 3) := by decide +kernel
theorem dX14_ran_97 : decode cX14_ran 97 = .ok (.getfield 360, 3) := by decide +kernel
theorem dX14_ran_100 : decode cX14_ran 100 = .ok (.invokevirtual 333, 3) := by decide +kernel
theorem dX14_ran_103 : decode cX14_ran 103 = .ok (.ireturn, 1) := by decide +kernel
theorem dX14_ran_104 : decode cX14_ran 104 = .ok (.aload_n 0, 1) := by decide +kernel
theorem dX14_ran_105 : decode cX14_ran 105 = .ok (.aload_n 0, 1) := by decide +kernel
theorem dX14_ran_106 : decode cX14_ran 106 = .ok (.getfield 40, 3) := by decide +kernel
theorem dX14_ran_109 : decode cX14_ran 109 = .ok (.getfield 366, 3) := by decide +kernel
theorem dX14_ran_112 : decode cX14_ran 112 = .ok (.invokestatic 414, 3) := by decide +kernel
theorem dX14_ran_115 : decode cX14_ran 115 = .ok (.invokevirtual 333, 3) := by decide +kernel
theorem dX14_ran_118 : decode cX14_ran 118 = .ok (.ireturn, 1) := by decide +kernel
theorem dX14_ran_119 : decode cX14_ran 119 = .ok (.aload_n 0, 1) := by decide +kernel
theorem dX14_ran_120 : decode cX14_ran 120 = .ok (.aload_n 0, 1) := by decide +kernel
theorem dX14_ran_121 : decode cX14_ran 121 = .ok (.getfield 40, 3) := by decide +kernel
theorem dX14_ran_124 : decode cX14_ran 124 = .ok (.getfield 363, 3) := by decide +kernel
theorem dX14_ran_127 : decode cX14_ran 127 = .ok (.invokevirtual 333, 3) := by decide +kernel
theorem dX14_ran_130 : decode cX14_ran 130 = .ok (.ireturn, 1) := by decide +kernel
theorem dX14_ran_131 : decode cX14_ran 131 = .ok (.aload_n 0, 1) := by decide +kernel
theorem dX14_ran_132 : decode cX14_ran 132 = .ok (.iconst 2, 1) := by decide +kernel
theorem dX14_ran_133 : decode cX14_ran 133 = .ok (.invokevirtual 307, 3) := by decide +kernel
theorem dX14_ran_136 : decode cX14_ran 136 = .ok (.ireturn, 1) := by decide +kernel
theorem dX14_said_0 : decode cX14_said 0 = .ok (.aload_n 0, 1) := by decide +kernel
theorem dX14_said_1 : decode cX14_said 1 = .ok (.aload_n 0, 1) := by decide +kernel
theorem dX14_said_2 : decode cX14_said 2 = .ok (.getfield 330, 3) := by decide +kernel
theorem dX14_said_5 : decode cX14_said 5 = .ok (.ifCond .eq 23, 3) := by decide +kernel
theorem dX14_said_8 : decode cX14_said 8 = .ok (.iload_n 1, 1) := by decide +kernel
theorem dX14_said_9 : decode cX14_said 9 = .ok (.ifCond .lt 19, 3) := by decide +kernel
theorem dX14_said_12 : decode cX14_said 12 = .ok (.iload_n 1, 1) := by decide +kernel
theorem dX14_said_13 : decode cX14_said 13 = .ok (.aload_n 0, 1) := by decide +kernel
theorem dX14_said_14 : decode cX14_said 14 = .ok (.getfield 40, 3) := by decide +kernel
theorem dX14_said_17 : decode cX14_said 17 = .ok (.getfield 357, 3) := by decide +kernel
theorem dX14_said_20 : decode cX14_said 20 = .ok (.bipush 60, 2) := by decide +kernel
theorem dX14_said_22 : decode cX14_said 22 = .ok (.invokestatic 416, 3) := by decide +kernel
theorem dX14_said_25 : decode cX14_said 25 = .ok (.if_icmp .lt 7, 3) := by decide +kernel
theorem dX14_said_28 : decode cX14_said 28 = .ok (.iconst 1, 1) := by decide +kernel
theorem dX14_said_29 : decode cX14_said 29 = .ok (.goto 4, 3) := by decide +kernel
theorem dX14_said_32 : decode cX14_said 32 = .ok (.iconst 0, 1) := by decide +kernel
theorem dX14_said_33 : decode cX14_said 33 = .ok (.putfield 76, 3) := by decide +kernel
theorem dX14_said_36 : decode cX14_said 36 = .ok (.aload_n 0, 1) := by decide +kernel
theorem dX14_said_37 : decode cX14_said 37 = .ok (.getfield 76, 3) := by decide +kernel
theorem dX14_said_40 : decode cX14_said 40 = .ok (.ifCond .le 7, 3) := by decide +kernel
theorem dX14_said_43 : decode cX14_said 43 = .ok (.iconst 0, 1) := by decide +kernel
theorem dX14_said_44 : decode cX14_said 44 = .ok (.goto 12, 3) := by decide +kernel
theorem dX14_said_47 : decode cX14_said 47 = .ok (.aload_n 0, 1) := by decide +kernel
theorem dX14_said_48 : decode cX14_said 48 = .ok (.getfield 40, 3) := by decide +kernel
theorem dX14_said_51 : decode cX14_said 51 = .ok (.getfield 397, 3) := by decide +kernel
theorem dX14_said_54 : decode cX14_said 54 = .ok (.iload_n 1, 1) := by decide +kernel
theorem dX14_said_55 : decode cX14_said 55 = .ok (.iaload, 1) := by decide +kernel
theorem dX14_said_56 : decode cX14_said 56 = .ok (.ireturn, 1) := by decide +kernel
theorem dX14_trace_0 : decode cX14_trace 0 = .ok (.aload_n 0, 1) := by decide +kernel
theorem dX14_trace_1 : decode cX14_trace 1 = .ok (.aload_n 0, 1) := by decide +kernel
theorem dX14_trace_2 : decode cX14_trace 2 = .ok (.getfield 330, 3) := by decide +kernel
theorem dX14_trace_5 : decode cX14_trace 5 = .ok (.ifCond .eq 33, 3) := by decide +kernel
theorem dX14_trace_8 : decode cX14_trace 8 = .ok (.iload_n 1, 1) := by decide +kernel
theorem dX14_trace_9 : decode cX14_trace 9 = .ok (.ifCond .lt 29, 3) := by decide +kernel
theorem dX14_trace_12 : decode cX14_trace 12 = .ok (.iload_n 1, 1) := by decide +kernel
theorem dX14_trace_13 : decode cX14_trace 13 = .ok (.aload_n 0, 1) := by decide +kernel
theorem dX14_trace_14 : decode cX14_trace 14 = .ok (.getfield 40, 3) := by decide +kernel
theorem dX14_trace_17 : decode cX14_trace 17 = .ok (.getfield 360, 3) := by decide +kernel
theorem dX14_trace_20 : decode cX14_trace 20 = .ok (.sipush 400, 3) := by decide +kernel
theorem dX14_trace_23 : decode cX14_trace 23 = .ok (.invokestatic 416, 3) := by decide +kernel
theorem dX14_trace_26 : decode cX14_trace 26 = .ok (.if_icmp .ge 12, 3) := by decide +kernel
theorem dX14_trace_29 : decode cX14_trace 29 = .ok (.iload_n 2, 1) := by decide +kernel
theorem dX14_trace_30 : decode cX14_trace 30 = .ok (.iconst 0, 1) := by decide +kernel
theorem dX14_trace_31 : decode cX14_trace 31 = .ok (.iconst 3, 1) := by decide +kernel
theorem dX14_trace_32 : decode cX14_trace 32 = .ok (.invokestatic 407, 3) := by decide +kernel
theorem dX14_trace_35 : decode cX14_trace 35 = .ok (.ifCond .ne 7, 3) := by decide +kernel
theorem dX14_trace_38 : decode cX14_trace 38 = .ok (.iconst 1, 1) := by decide +kernel
theorem dX14_trace_39 : decode cX14_trace 39 = .ok (.goto 4, 3) := by decide +kernel
theorem dX14_trace_42 : decode cX14_trace 42 = .ok (.iconst 0, 1) := by decide +kernel
theorem dX14_trace_43 : decode cX14_trace 43 = .ok (.putfield 76, 3) := by decide +kernel
theorem dX14_trace_46 : decode cX14_trace 46 = .ok (.aload_n 0, 1) := by decide +kernel
theorem dX14_trace_47 : decode cX14_trace 47 = .ok (.getfield 76, 3) := by decide +kernel
theorem dX14_trace_50 : decode cX14_trace 50 = .ok (.ifCond .le 7, 3) := by decide +kernel
theorem dX14_trace_53 : decode cX14_trace 53 = .ok (.iconst 0, 1) := by decide +kernel
theorem dX14_trace_54 : decode cX14_trace 54 = .ok (.goto 16, 3) := by decide +kernel
theorem dX14_trace_57 : decode cX14_trace 57 = .ok (.aload_n 0, 1) := by decide +kernel
theorem dX14_trace_58 : decode cX14_trace 58 = .ok (.getfield 40, 3) := by decide +kernel
theorem dX14_trace_61 : decode cX14_trace 61 = .ok (.getfield 400, 3) := by decide +kernel
theorem dX14_trace_64 : decode cX14_trace 64 = .ok (.iconst 4, 1) := by decide +kernel
theorem dX14_trace_65 : decode cX14_trace 65 = .ok (.iload_n 1, 1) := by decide +kernel
theorem dX14_trace_66 : decode cX14_trace 66 = .ok (.imul, 1) := by decide +kernel
theorem dX14_trace_67 : decode cX14_trace 67 = .ok (.iload_n 2, 1) := by decide +kernel
theorem dX14_trace_68 : decode cX14_trace 68 = .ok (.iadd, 1) := by decide +kernel
theorem dX14_trace_69 : decode cX14_trace 69 = .ok (.iaload, 1) := by decide +kernel
theorem dX14_trace_70 : decode cX14_trace 70 = .ok (.ireturn, 1) := by decide +kernel
theorem dX14_covered_0 : decode cX14_covered 0 = .ok (.aload_n 0, 1) := by decide +kernel
theorem dX14_covered_1 : decode cX14_covered 1 = .ok (.iconst 0, 1) := by decide +kernel
theorem dX14_covered_2 : decode cX14_covered 2 = .ok (.putfield 76, 3) := by decide +kernel
theorem dX14_covered_5 : decode cX14_covered 5 = .ok (.aload_n 0, 1) := by decide +kernel
theorem dX14_covered_6 : decode cX14_covered 6 = .ok (.getfield 330, 3) := by decide +kernel
theorem dX14_covered_9 : decode cX14_covered 9 = .ok (.ifCond .eq 26, 3) := by decide +kernel
theorem dX14_covered_12 : decode cX14_covered 12 = .ok (.aload_n 0, 1) := by decide +kernel
theorem dX14_covered_13 : decode cX14_covered 13 = .ok (.iload_n 1, 1) := by decide +kernel
theorem dX14_covered_14 : decode cX14_covered 14 = .ok (.invokevirtual 341, 3) := by decide +kernel
theorem dX14_covered_17 : decode cX14_covered 17 = .ok (.ifCond .eq 18, 3) := by decide +kernel
theorem dX14_covered_20 : decode cX14_covered 20 = .ok (.aload_n 0, 1) := by decide +kernel
theorem dX14_covered_21 : decode cX14_covered 21 = .ok (.getfield 40, 3) := by decide +kernel
theorem dX14_covered_24 : decode cX14_covered 24 = .ok (.getfield 366, 3) := by decide +kernel
theorem dX14_covered_27 : decode cX14_covered 27 = .ok (.iload_n 1, 1) := by decide +kernel
theorem dX14_covered_28 : decode cX14_covered 28 = .ok (.lshr, 1) := by decide +kernel
theorem dX14_covered_29 : decode cX14_covered 29 = .ok (.lconst 1, 1) := by decide +kernel
theorem dX14_covered_30 : decode cX14_covered 30 = .ok (.land, 1) := by decide +kernel
theorem dX14_covered_31 : decode cX14_covered 31 = .ok (.l2i, 1) := by decide +kernel
theorem dX14_covered_32 : decode cX14_covered 32 = .ok (.goto 4, 3) := by decide +kernel
theorem dX14_covered_35 : decode cX14_covered 35 = .ok (.iconst (-1), 1) := by decide +kernel
theorem dX14_covered_36 : decode cX14_covered 36 = .ok (.ireturn, 1) := by decide +kernel
theorem dX14_place_0 : decode cX14_place 0 = .ok (.aload_n 0, 1) := by decide +kernel
theorem dX14_place_1 : decode cX14_place 1 = .ok (.iconst 0, 1) := by decide +kernel
theorem dX14_place_2 : decode cX14_place 2 = .ok (.putfield 76, 3) := by decide +kernel
theorem dX14_place_5 : decode cX14_place 5 = .ok (.aload_n 0, 1) := by decide +kernel
theorem dX14_place_6 : decode cX14_place 6 = .ok (.getfield 330, 3) := by decide +kernel
theorem dX14_place_9 : decode cX14_place 9 = .ok (.ifCond .ne 9, 3) := by decide +kernel
theorem dX14_place_12 : decode cX14_place 12 = .ok (.aload_n 0, 1) := by decide +kernel
theorem dX14_place_13 : decode cX14_place 13 = .ok (.iconst 5, 1) := by decide +kernel
theorem dX14_place_14 : decode cX14_place 14 = .ok (.invokevirtual 307, 3) := by decide +kernel
theorem dX14_place_17 : decode cX14_place 17 = .ok (.ireturn, 1) := by decide +kernel
theorem dX14_place_18 : decode cX14_place 18 = .ok (.iload_n 1, 1) := by decide +kernel
theorem dX14_place_19 : decode cX14_place 19 = .ok (.iconst 0, 1) := by decide +kernel
theorem dX14_place_20 : decode cX14_place 20 = .ok (.bipush 7, 2) := by decide +kernel
theorem dX14_place_22 : decode cX14_place 22 = .ok (.invokestatic 407, 3) := by decide +kernel
theorem dX14_place_25 : decode cX14_place 25 = .ok (.ifCond .eq 19, 3) := by decide +kernel
theorem dX14_place_28 : decode cX14_place 28 = .ok (.aload_n 0, 1) := by decide +kernel
theorem dX14_place_29 : decode cX14_place 29 = .ok (.aload_n 0, 1) := by decide +kernel
theorem dX14_place_30 : decode cX14_place 30 = .ok (.getfield 40, 3) := by decide +kernel
theorem dX14_place_33 : decode cX14_place 33 = .ok (.getfield 382, 3) := by decide +kernel
theorem dX14_place_36 : decode cX14_place 36 = .ok (.iload_n 1, 1) := by decide +kernel
theorem dX14_place_37 : decode cX14_place 37 = .ok (.iaload, 1) := by decide +kernel
theorem dX14_place_38 : decode cX14_place 38 = .ok (.invokevirtual 333, 3) := by decide +kernel
theorem dX14_place_41 : decode cX14_place 41 = .ok (.goto 8, 3) := by decide +kernel
theorem dX14_place_44 : decode cX14_place 44 = .ok (.aload_n 0, 1) := by decide +kernel
theorem dX14_place_45 : decode cX14_place 45 = .ok (.iconst 2, 1) := by decide +kernel
theorem dX14_place_46 : decode cX14_place 46 = .ok (.invokevirtual 307, 3) := by decide +kernel
theorem dX14_place_49 : decode cX14_place 49 = .ok (.ireturn, 1) := by decide +kernel
theorem dX14_wrong_0 : decode cX14_wrong 0 = .ok (.aload_n 0, 1) := by decide +kernel
theorem dX14_wrong_1 : decode cX14_wrong 1 = .ok (.iconst 0, 1) := by decide +kernel
theorem dX14_wrong_2 : decode cX14_wrong 2 = .ok (.putfield 76, 3) := by decide +kernel
theorem dX14_wrong_5 : decode cX14_wrong 5 = .ok (.aload_n 0, 1) := by decide +kernel
theorem dX14_wrong_6 : decode cX14_wrong 6 = .ok (.iload_n 2, 1) := by decide +kernel
theorem dX14_wrong_7 : decode cX14_wrong 7 = .ok (.invokevirtual 336, 3) := by decide +kernel
theorem dX14_wrong_10 : decode cX14_wrong 10 = .ok (.ifCond .ne 9, 3) := by decide +kernel
theorem dX14_wrong_13 : decode cX14_wrong 13 = .ok (.aload_n 0, 1) := by decide +kernel
theorem dX14_wrong_14 : decode cX14_wrong 14 = .ok (.iconst 1, 1) := by decide +kernel
theorem dX14_wrong_15 : decode cX14_wrong 15 = .ok (.invokevirtual 307, 3) := by decide +kernel
theorem dX14_wrong_18 : decode cX14_wrong 18 = .ok (.ireturn, 1) := by decide +kernel
theorem dX14_wrong_19 : decode cX14_wrong 19 = .ok (.iload_n 1, 1) := by decide +kernel
theorem dX14_wrong_20 : decode cX14_wrong 20 = .ok (.iconst 0, 1) := by decide +kernel
theorem dX14_wrong_21 : decode cX14_wrong 21 = .ok (.iconst 3, 1) := by decide +kernel
theorem dX14_wrong_22 : decode cX14_wrong 22 = .ok (.invokestatic 407, 3) := by decide +kernel
theorem dX14_wrong_25 : decode cX14_wrong 25 = .ok (.ifCond .ne 9, 3) := by decide +kernel
theorem dX14_wrong_28 : decode cX14_wrong 28 = .ok (.aload_n 0, 1) := by decide +kernel
theorem dX14_wrong_29 : decode cX14_wrong 29 = .ok (.iconst 2, 1) := by decide +kernel
theorem dX14_wrong_30 : decode cX14_wrong 30 = .ok (.invokevirtual 307, 3) := by decide +kernel
theorem dX14_wrong_33 : decode cX14_wrong 33 = .ok (.ireturn, 1) := by decide +kernel
theorem dX14_wrong_34 : decode cX14_wrong 34 = .ok (.aload_n 0, 1) := by decide +kernel
theorem dX14_wrong_35 : decode cX14_wrong 35 = .ok (.iload_n 2, 1) := by decide +kernel
theorem dX14_wrong_36 : decode cX14_wrong 36 = .ok (.iload_n 3, 1) := by decide +kernel
theorem dX14_wrong_37 : decode cX14_wrong 37 = .ok (.iload 4, 2) := by decide +kernel
theorem dX14_wrong_39 : decode cX14_wrong 39 = .ok (.iload 5, 2) := by decide +kernel
theorem dX14_wrong_41 : decode cX14_wrong 41 = .ok (.sipush 2000, 3) := by decide +kernel
theorem dX14_wrong_44 : decode cX14_wrong 44 = .ok (.iload_n 1, 1) := by decide +kernel
theorem dX14_wrong_45 : decode cX14_wrong 45 = .ok (.invokevirtual 411, 3) := by decide +kernel
theorem dX14_wrong_48 : decode cX14_wrong 48 = .ok (.aload_n 0, 1) := by decide +kernel
theorem dX14_wrong_49 : decode cX14_wrong 49 = .ok (.aload_n 0, 1) := by decide +kernel
theorem dX14_wrong_50 : decode cX14_wrong 50 = .ok (.getfield 44, 3) := by decide +kernel
theorem dX14_wrong_53 : decode cX14_wrong 53 = .ok (.getfield 352, 3) := by decide +kernel
theorem dX14_wrong_56 : decode cX14_wrong 56 = .ok (.invokevirtual 333, 3) := by decide +kernel
theorem dX14_wrong_59 : decode cX14_wrong 59 = .ok (.ireturn, 1) := by decide +kernel
theorem dX14_unlike_0 : decode cX14_unlike 0 = .ok (.aload_n 0, 1) := by decide +kernel
theorem dX14_unlike_1 : decode cX14_unlike 1 = .ok (.iconst 0, 1) := by decide +kernel
theorem dX14_unlike_2 : decode cX14_unlike 2 = .ok (.putfield 76, 3) := by decide +kernel
theorem dX14_unlike_5 : decode cX14_unlike 5 = .ok (.aload_n 0, 1) := by decide +kernel
theorem dX14_unlike_6 : decode cX14_unlike 6 = .ok (.iload_n 1, 1) := by decide +kernel
theorem dX14_unlike_7 : decode cX14_unlike 7 = .ok (.invokevirtual 336, 3) := by decide +kernel
theorem dX14_unlike_10 : decode cX14_unlike 10 = .ok (.ifCond .ne 9, 3) := by decide +kernel
theorem dX14_unlike_13 : decode cX14_unlike 13 = .ok (.aload_n 0, 1) := by decide +kernel
theorem dX14_unlike_14 : decode cX14_unlike 14 = .ok (.iconst 1, 1) := by decide +kernel
theorem dX14_unlike_15 : decode cX14_unlike 15 = .ok (.invokevirtual 307, 3) := by decide +kernel
theorem dX14_unlike_18 : decode cX14_unlike 18 = .ok (.ireturn, 1) := by decide +kernel
theorem dX14_unlike_19 : decode cX14_unlike 19 = .ok (.aload_n 0, 1) := by decide +kernel
theorem dX14_unlike_20 : decode cX14_unlike 20 = .ok (.iload_n 1, 1) := by decide +kernel
theorem dX14_unlike_21 : decode cX14_unlike 21 = .ok (.iload_n 2, 1) := by decide +kernel
theorem dX14_unlike_22 : decode cX14_unlike 22 = .ok (.iload_n 3, 1) := by decide +kernel
theorem dX14_unlike_23 : decode cX14_unlike 23 = .ok (.iload 4, 2) := by decide +kernel
theorem dX14_unlike_25 : decode cX14_unlike 25 = .ok (.sipush 2000, 3) := by decide +kernel
theorem dX14_unlike_28 : decode cX14_unlike 28 = .ok (.iconst (-1), 1) := by decide +kernel
theorem dX14_unlike_29 : decode cX14_unlike 29 = .ok (.invokevirtual 411, 3) := by decide +kernel
theorem dX14_unlike_32 : decode cX14_unlike 32 = .ok (.aload_n 0, 1) := by decide +kernel
theorem dX14_unlike_33 : decode cX14_unlike 33 = .ok (.getfield 44, 3) := by decide +kernel
theorem dX14_unlike_36 : decode cX14_unlike 36 = .ok (.getfield 350, 3) := by decide +kernel
theorem dX14_unlike_39 : decode cX14_unlike 39 = .ok (.istore 5, 2) := by decide +kernel
theorem dX14_unlike_41 : decode cX14_unlike 41 = .ok (.aload_n 0, 1) := by decide +kernel
theorem dX14_unlike_42 : decode cX14_unlike 42 = .ok (.getfield 44, 3) := by decide +kernel
theorem dX14_unlike_45 : decode cX14_unlike 45 = .ok (.getfield 352, 3) := by decide +kernel
theorem dX14_unlike_48 : decode cX14_unlike 48 = .ok (.istore 6, 2) := by decide +kernel
theorem dX14_unlike_50 : decode cX14_unlike 50 = .ok (.aload_n 0, 1) := by decide +kernel
theorem dX14_unlike_51 : decode cX14_unlike 51 = .ok (.getfield 44, 3) := by decide +kernel
theorem dX14_unlike_54 : decode cX14_unlike 54 = .ok (.getfield 357, 3) := by decide +kernel
theorem dX14_unlike_57 : decode cX14_unlike 57 = .ok (.istore 7, 2) := by decide +kernel
theorem dX14_unlike_59 : decode cX14_unlike 59 = .ok (.iconst 0, 1) := by decide +kernel
theorem dX14_unlike_60 : decode cX14_unlike 60 = .ok (.istore 8, 2) := by decide +kernel
theorem dX14_unlike_62 : decode cX14_unlike 62 = .ok (.iload 8, 2) := by decide +kernel
theorem dX14_unlike_64 : decode cX14_unlike 64 = .ok (.bipush 60, 2) := by decide +kernel
theorem dX14_unlike_66 : decode cX14_unlike 66 = .ok (.if_icmp .ge 26, 3) := by decide +kernel
theorem dX14_unlike_69 : decode cX14_unlike 69 = .ok (.aload_n 0, 1) := by decide +kernel
theorem dX14_unlike_70 : decode cX14_unlike 70 = .ok (.getfield 51, 3) := by decide +kernel
theorem dX14_unlike_73 : decode cX14_unlike 73 = .ok (.iload 8, 2) := by decide +kernel
theorem dX14_unlike_75 : decode cX14_unlike 75 = .ok (.aload_n 0, 1) := by decide +kernel
theorem dX14_unlike_76 : decode cX14_unlike 76 = .ok (.getfield 44, 3) := by decide +kernel
theorem dX14_unlike_79 : decode cX14_unlike 79 = .ok (.getfield 397, 3) := by decide +kernel
theorem dX14_unlike_82 : decode cX14_unlike 82 = .ok (.iload 8, 2) := by decide +kernel
theorem dX14_unlike_84 : decode cX14_unlike 84 = .ok (.iaload, 1) := by decide +kernel
theorem dX14_unlike_85 : decode cX14_unlike 85 = .ok (.iastore, 1) := by decide +kernel
theorem dX14_unlike_86 : decode cX14_unlike 86 = .ok (.iinc 8 1, 3) := by decide +kernel
theorem dX14_unlike_89 : decode cX14_unlike 89 = .ok (.goto (-27), 3) := by decide +kernel
theorem dX14_unlike_92 : decode cX14_unlike 92 = .ok (.iconst 0, 1) := by decide +kernel
theorem dX14_unlike_93 : decode cX14_unlike 93 = .ok (.istore 8, 2) := by decide +kernel
theorem dX14_unlike_95 : decode cX14_unlike 95 = .ok (.iconst 0, 1) := by decide +kernel
theorem dX14_unlike_96 : decode cX14_unlike 96 = .ok (.istore 9, 2) := by decide +kernel
theorem dX14_unlike_98 : decode cX14_unlike 98 = .ok (.iload 9, 2) := by decide +kernel
theorem dX14_unlike_100 : decode cX14_unlike 100 = .ok (.iconst 4, 1) := by decide +kernel
theorem dX14_unlike_101 : decode cX14_unlike 101 = .ok (.if_icmp .ge 136, 3) := by decide +kernel
theorem dX14_unlike_104 : decode cX14_unlike 104 = .ok (.aload_n 0, 1) := by decide +kernel
theorem dX14_unlike_105 : decode cX14_unlike 105 = .ok (.iload_n 1, 1) := by decide +kernel
theorem dX14_unlike_106 : decode cX14_unlike 106 = .ok (.iload_n 2, 1) := by decide +kernel
theorem dX14_unlike_107 : decode cX14_unlike 107 = .ok (.iload_n 3, 1) := by decide +kernel
theorem dX14_unlike_108 : decode cX14_unlike 108 = .ok (.iload 4, 2) := by decide +kernel
theorem dX14_unlike_110 : decode cX14_unlike 110 = .ok (.sipush 2000, 3) := by decide +kernel
theorem dX14_unlike_113 : decode cX14_unlike 113 = .ok (.iload 9, 2) := by decide +kernel
theorem dX14_unlike_115 : decode cX14_unlike 115 = .ok (.invokevirtual 411, 3) := by decide +kernel
theorem dX14_unlike_118 : decode cX14_unlike 118 = .ok (.aload_n 0, 1) := by decide +kernel
theorem dX14_unlike_119 : decode cX14_unlike 119 = .ok (.getfield 44, 3) := by decide +kernel
theorem dX14_unlike_122 : decode cX14_unlike 122 = .ok (.getfield 350, 3) := by decide +kernel
theorem dX14_unlike_125 : decode cX14_unlike 125 = .ok (.iload 5, 2) := by decide +kernel
theorem dX14_unlike_127 : decode cX14_unlike 127 = .ok (.if_icmp .ne 31, 3) := by decide +kernel
theorem dX14_unlike_130 : decode cX14_unlike 130 = .ok (.aload_n 0, 1) := by decide +kernel
theorem dX14_unlike_131 : decode cX14_unlike 131 = .ok (.getfield 44, 3) := by decide +kernel
theorem dX14_unlike_134 : decode cX14_unlike 134 = .ok (.getfield 352, 3) := by decide +kernel
theorem dX14_unlike_137 : decode cX14_unlike 137 = .ok (.iload 6, 2) := by decide +kernel
theorem dX14_unlike_139 : decode cX14_unlike 139 = .ok (.if_icmp .ne 19, 3) := by decide +kernel
theorem dX14_unlike_142 : decode cX14_unlike 142 = .ok (.aload_n 0, 1) := by decide +kernel
theorem dX14_unlike_143 : decode cX14_unlike 143 = .ok (.getfield 44, 3) := by decide +kernel
theorem dX14_unlike_146 : decode cX14_unlike 146 = .ok (.getfield 357, 3) := by decide +kernel
theorem dX14_unlike_149 : decode cX14_unlike 149 = .ok (.iload 7, 2) := by decide +kernel
theorem dX14_unlike_151 : decode cX14_unlike 151 = .ok (.if_icmp .ne 7, 3) := by decide +kernel
theorem dX14_unlike_154 : decode cX14_unlike 154 = .ok (.iconst 1, 1) := by decide +kernel
theorem dX14_unlike_155 : decode cX14_unlike 155 = .ok (.goto 4, 3) := by decide +kernel
theorem dX14_unlike_158 : decode cX14_unlike 158 = .ok (.iconst 0, 1) := by decide +kernel
theorem dX14_unlike_159 : decode cX14_unlike 159 = .ok (.istore 10, 2) := by decide +kernel
theorem dX14_unlike_161 : decode cX14_unlike 161 = .ok (.iconst 0, 1) := by decide +kernel
theorem dX14_unlike_162 : decode cX14_unlike 162 = .ok (.istore 11, 2) := by decide +kernel
theorem dX14_unlike_164 : decode cX14_unlike 164 = .ok (.iload 11, 2) := by decide +kernel
theorem dX14_unlike_166 : decode cX14_unlike 166 = .ok (.iload 7, 2) := by decide +kernel
theorem dX14_unlike_168 : decode cX14_unlike 168 = .ok (.if_icmp .ge 48, 3) := by decide +kernel
theorem dX14_unlike_171 : decode cX14_unlike 171 = .ok (.iload 11, 2) := by decide +kernel
theorem dX14_unlike_173 : decode cX14_unlike 173 = .ok (.bipush 60, 2) := by decide +kernel
theorem dX14_unlike_175 : decode cX14_unlike 175 = .ok (.if_icmp .ge 41, 3) := by decide +kernel
theorem dX14_unlike_178 : decode cX14_unlike 178 = .ok (.iload 10, 2) := by decide +kernel
theorem dX14_unlike_180 : decode cX14_unlike 180 = .ok (.ifCond .eq 36, 3) := by decide +kernel
theorem dX14_unlike_183 : decode cX14_unlike 183 = .ok (.aload_n 0, 1) := by decide +kernel
theorem dX14_unlike_184 : decode cX14_unlike 184 = .ok (.getfield 44, 3) := by decide +kernel
theorem dX14_unlike_187 : decode cX14_unlike 187 = .ok (.getfield 397, 3) := by decide +kernel
theorem dX14_unlike_190 : decode cX14_unlike 190 = .ok (.iload 11, 2) := by decide +kernel
theorem dX14_unlike_192 : decode cX14_unlike 192 = .ok (.iaload, 1) := by decide +kernel
theorem dX14_unlike_193 : decode cX14_unlike 193 = .ok (.aload_n 0, 1) := by decide +kernel
theorem dX14_unlike_194 : decode cX14_unlike 194 = .ok (.getfield 51, 3) := by decide +kernel
theorem dX14_unlike_197 : decode cX14_unlike 197 = .ok (.iload 11, 2) := by decide +kernel
theorem dX14_unlike_199 : decode cX14_unlike 199 = .ok (.iaload, 1) := by decide +kernel
theorem dX14_unlike_200 : decode cX14_unlike 200 = .ok (.if_icmp .ne 7, 3) := by decide +kernel
theorem dX14_unlike_203 : decode cX14_unlike 203 = .ok (.iconst 1, 1) := by decide +kernel
theorem dX14_unlike_204 : decode cX14_unlike 204 = .ok (.goto 4, 3) := by decide +kernel
theorem dX14_unlike_207 : decode cX14_unlike 207 = .ok (.iconst 0, 1) := by decide +kernel
theorem dX14_unlike_208 : decode cX14_unlike 208 = .ok (.istore 10, 2) := by decide +kernel
theorem dX14_unlike_210 : decode cX14_unlike 210 = .ok (.iinc 11 1, 3) := by decide +kernel
theorem dX14_unlike_213 : decode cX14_unlike 213 = .ok (.goto (-49), 3) := by decide +kernel
theorem dX14_unlike_216 : decode cX14_unlike 216 = .ok (.iload 8, 2) := by decide +kernel
theorem dX14_unlike_218 : decode cX14_unlike 218 = .ok (.iload 10, 2) := by decide +kernel
theorem dX14_unlike_220 : decode cX14_unlike 220 = .ok (.ifCond .eq 7, 3) := by decide +kernel
theorem dX14_unlike_223 : decode cX14_unlike 223 = .ok (.iconst 0, 1) := by decide +kernel
theorem dX14_unlike_224 : decode cX14_unlike 224 = .ok (.goto 4, 3) := by decide +kernel
theorem dX14_unlike_227 : decode cX14_unlike 227 = .ok (.iconst 1, 1) := by decide +kernel
theorem dX14_unlike_228 : decode cX14_unlike 228 = .ok (.iadd, 1) := by decide +kernel
theorem dX14_unlike_229 : decode cX14_unlike 229 = .ok (.istore 8, 2) := by decide +kernel
theorem dX14_unlike_231 : decode cX14_unlike 231 = .ok (.iinc 9 1, 3) := by decide +kernel
theorem dX14_unlike_234 : decode cX14_unlike 234 = .ok (.goto (-136), 3) := by decide +kernel
theorem dX14_unlike_237 : decode cX14_unlike 237 = .ok (.aload_n 0, 1) := by decide +kernel
theorem dX14_unlike_238 : decode cX14_unlike 238 = .ok (.iload 8, 2) := by decide +kernel
theorem dX14_unlike_240 : decode cX14_unlike 240 = .ok (.invokevirtual 333, 3) := by decide +kernel
theorem dX14_unlike_243 : decode cX14_unlike 243 = .ok (.ireturn, 1) := by decide +kernel
theorem dX14_order_0 : decode cX14_order 0 = .ok (.aload_n 0, 1) := by decide +kernel
theorem dX14_order_1 : decode cX14_order 1 = .ok (.iconst 0, 1) := by decide +kernel
theorem dX14_order_2 : decode cX14_order 2 = .ok (.putfield 76, 3) := by decide +kernel
theorem dX14_order_5 : decode cX14_order 5 = .ok (.aload_n 0, 1) := by decide +kernel
theorem dX14_order_6 : decode cX14_order 6 = .ok (.getfield 318, 3) := by decide +kernel
theorem dX14_order_9 : decode cX14_order 9 = .ok (.ifCond .ne 6, 3) := by decide +kernel
theorem dX14_order_12 : decode cX14_order 12 = .ok (.bipush (-2), 2) := by decide +kernel
theorem dX14_order_14 : decode cX14_order 14 = .ok (.ireturn, 1) := by decide +kernel
theorem dX14_order_15 : decode cX14_order 15 = .ok (.aload_n 0, 1) := by decide +kernel
theorem dX14_order_16 : decode cX14_order 16 = .ok (.invokevirtual 425, 3) := by decide +kernel
theorem dX14_order_19 : decode cX14_order 19 = .ok (.aload_n 0, 1) := by decide +kernel
theorem dX14_order_20 : decode cX14_order 20 = .ok (.getfield 54, 3) := by decide +kernel
theorem dX14_order_23 : decode cX14_order 23 = .ok (.iconst 0, 1) := by decide +kernel
theorem dX14_order_24 : decode cX14_order 24 = .ok (.iaload, 1) := by decide +kernel
theorem dX14_order_25 : decode cX14_order 25 = .ok (.ireturn, 1) := by decide +kernel
theorem dX14_chapter_0 : decode cX14_chapter 0 = .ok (.aload_n 0, 1) := by decide +kernel
theorem dX14_chapter_1 : decode cX14_chapter 1 = .ok (.iconst 0, 1) := by decide +kernel
theorem dX14_chapter_2 : decode cX14_chapter 2 = .ok (.putfield 76, 3) := by decide +kernel
theorem dX14_chapter_5 : decode cX14_chapter 5 = .ok (.aload_n 0, 1) := by decide +kernel
theorem dX14_chapter_6 : decode cX14_chapter 6 = .ok (.getfield 318, 3) := by decide +kernel
theorem dX14_chapter_9 : decode cX14_chapter 9 = .ok (.ifCond .eq 18, 3) := by decide +kernel
theorem dX14_chapter_12 : decode cX14_chapter 12 = .ok (.iload_n 1, 1) := by decide +kernel
theorem dX14_chapter_13 : decode cX14_chapter 13 = .ok (.ifCond .lt 14, 3) := by decide +kernel
theorem dX14_chapter_16 : decode cX14_chapter 16 = .ok (.iload_n 1, 1) := by decide +kernel
theorem dX14_chapter_17 : decode cX14_chapter 17 = .ok (.aload_n 0, 1) := by decide +kernel
theorem dX14_chapter_18 : decode cX14_chapter 18 = .ok (.getfield 16, 3) := by decide +kernel
theorem dX14_chapter_21 : decode cX14_chapter 21 = .ok (.getfield 168, 3) := by decide +kernel
theorem dX14_chapter_24 : decode cX14_chapter 24 = .ok (.if_icmp .lt 5, 3) := by decide +kernel
theorem dX14_chapter_27 : decode cX14_chapter 27 = .ok (.iconst (-1), 1) := by decide +kernel
theorem dX14_chapter_28 : decode cX14_chapter 28 = .ok (.ireturn, 1) := by decide +kernel
theorem dX14_chapter_29 : decode cX14_chapter 29 = .ok (.aload_n 0, 1) := by decide +kernel
theorem dX14_chapter_30 : decode cX14_chapter 30 = .ok (.invokevirtual 425, 3) := by decide +kernel
theorem dX14_chapter_33 : decode cX14_chapter 33 = .ok (.iconst 0, 1) := by decide +kernel
theorem dX14_chapter_34 : decode cX14_chapter 34 = .ok (.istore_n 2, 1) := by decide +kernel
theorem dX14_chapter_35 : decode cX14_chapter 35 = .ok (.iconst (-1), 1) := by decide +kernel
theorem dX14_chapter_36 : decode cX14_chapter 36 = .ok (.istore_n 3, 1) := by decide +kernel
theorem dX14_chapter_37 : decode cX14_chapter 37 = .ok (.iconst 0, 1) := by decide +kernel
theorem dX14_chapter_38 : decode cX14_chapter 38 = .ok (.istore 4, 2) := by decide +kernel
theorem dX14_chapter_40 : decode cX14_chapter 40 = .ok (.iload 4, 2) := by decide +kernel
theorem dX14_chapter_42 : decode cX14_chapter 42 = .ok (.iload_n 1, 1) := by decide +kernel
theorem dX14_chapter_43 : decode cX14_chapter 43 = .ok (.if_icmp .gt 58, 3) := by decide +kernel
theorem dX14_chapter_46 : decode cX14_chapter 46 = .ok (.iconst 0, 1) := by decide +kernel
theorem dX14_chapter_47 : decode cX14_chapter 47 = .ok (.istore_n 3, 1) := by decide +kernel
theorem dX14_chapter_48 : decode cX14_chapter 48 = .ok (.iload_n 2, 1) := by decide +kernel
theorem dX14_chapter_49 : decode cX14_chapter 49 = .ok (.iload_n 3, 1) := by decide +kernel
theorem dX14_chapter_50 : decode cX14_chapter 50 = .ok (.ishr, 1) := by decide +kernel
theorem dX14_chapter_51 : decode cX14_chapter 51 = .ok (.iconst 1, 1) := by decide +kernel
theorem dX14_chapter_52 : decode cX14_chapter 52 = .ok (.iand, 1) := by decide +kernel
theorem dX14_chapter_53 : decode cX14_chapter 53 = .ok (.iconst 1, 1) := by decide +kernel
theorem dX14_chapter_54 : decode cX14_chapter 54 = .ok (.if_icmp .eq 29, 3) := by decide +kernel
theorem dX14_chapter_57 : decode cX14_chapter 57 = .ok (.aload_n 0, 1) := by decide +kernel
theorem dX14_chapter_58 : decode cX14_chapter 58 = .ok (.iload_n 3, 1) := by decide +kernel
theorem dX14_chapter_59 : decode cX14_chapter 59 = .ok (.iload_n 2, 1) := by decide +kernel
theorem dX14_chapter_60 : decode cX14_chapter 60 = .ok (.invokevirtual 422, 3) := by decide +kernel
theorem dX14_chapter_63 : decode cX14_chapter 63 = .ok (.aload_n 0, 1) := by decide +kernel
theorem dX14_chapter_64 : decode cX14_chapter 64 = .ok (.getfield 54, 3) := by decide +kernel
theorem dX14_chapter_67 : decode cX14_chapter 67 = .ok (.iload_n 2, 1) := by decide +kernel
theorem dX14_chapter_68 : decode cX14_chapter 68 = .ok (.iconst 1, 1) := by decide +kernel
theorem dX14_chapter_69 : decode cX14_chapter 69 = .ok (.iload_n 3, 1) := by decide +kernel
theorem dX14_chapter_70 : decode cX14_chapter 70 = .ok (.ishl, 1) := by decide +kernel
theorem dX14_chapter_71 : decode cX14_chapter 71 = .ok (.ior, 1) := by decide +kernel
theorem dX14_chapter_72 : decode cX14_chapter 72 = .ok (.iaload, 1) := by decide +kernel
theorem dX14_chapter_73 : decode cX14_chapter 73 = .ok (.iadd, 1) := by decide +kernel
theorem dX14_chapter_74 : decode cX14_chapter 74 = .ok (.aload_n 0, 1) := by decide +kernel
theorem dX14_chapter_75 : decode cX14_chapter 75 = .ok (.getfield 54, 3) := by decide +kernel
theorem dX14_chapter_78 : decode cX14_chapter 78 = .ok (.iload_n 2, 1) := by decide +kernel
theorem dX14_chapter_79 : decode cX14_chapter 79 = .ok (.iaload, 1) := by decide +kernel
theorem dX14_chapter_80 : decode cX14_chapter 80 = .ok (.if_icmp .eq 9, 3) := by decide +kernel
theorem dX14_chapter_83 : decode cX14_chapter 83 = .ok (.iinc 3 1, 3) := by decide +kernel
theorem dX14_chapter_86 : decode cX14_chapter 86 = .ok (.goto (-38), 3) := by decide +kernel
theorem dX14_chapter_89 : decode cX14_chapter 89 = .ok (.iload_n 2, 1) := by decide +kernel
theorem dX14_chapter_90 : decode cX14_chapter 90 = .ok (.iconst 1, 1) := by decide +kernel
theorem dX14_chapter_91 : decode cX14_chapter 91 = .ok (.iload_n 3, 1) := by decide +kernel
theorem dX14_chapter_92 : decode cX14_chapter 92 = .ok (.ishl, 1) := by decide +kernel
theorem dX14_chapter_93 : decode cX14_chapter 93 = .ok (.ior, 1) := by decide +kernel
theorem dX14_chapter_94 : decode cX14_chapter 94 = .ok (.istore_n 2, 1) := by decide +kernel
theorem dX14_chapter_95 : decode cX14_chapter 95 = .ok (.iinc 4 1, 3) := by decide +kernel
theorem dX14_chapter_98 : decode cX14_chapter 98 = .ok (.goto (-58), 3) := by decide +kernel
theorem dX14_chapter_101 : decode cX14_chapter 101 = .ok (.iload_n 3, 1) := by decide +kernel
theorem dX14_chapter_102 : decode cX14_chapter 102 = .ok (.ireturn, 1) := by decide +kernel
theorem dX14_tell_0 : decode cX14_tell 0 = .ok (.aload_n 0, 1) := by decide +kernel
theorem dX14_tell_1 : decode cX14_tell 1 = .ok (.iconst 0, 1) := by decide +kernel
theorem dX14_tell_2 : decode cX14_tell 2 = .ok (.putfield 76, 3) := by decide +kernel
theorem dX14_tell_5 : decode cX14_tell 5 = .ok (.aload_n 0, 1) := by decide +kernel
theorem dX14_tell_6 : decode cX14_tell 6 = .ok (.iload_n 1, 1) := by decide +kernel
theorem dX14_tell_7 : decode cX14_tell 7 = .ok (.invokevirtual 336, 3) := by decide +kernel
theorem dX14_tell_10 : decode cX14_tell 10 = .ok (.ifCond .ne 9, 3) := by decide +kernel
theorem dX14_tell_13 : decode cX14_tell 13 = .ok (.aload_n 0, 1) := by decide +kernel
theorem dX14_tell_14 : decode cX14_tell 14 = .ok (.iconst 1, 1) := by decide +kernel
theorem dX14_tell_15 : decode cX14_tell 15 = .ok (.invokevirtual 307, 3) := by decide +kernel
theorem dX14_tell_18 : decode cX14_tell 18 = .ok (.ireturn, 1) := by decide +kernel
theorem dX14_tell_19 : decode cX14_tell 19 = .ok (.aload_n 0, 1) := by decide +kernel
theorem dX14_tell_20 : decode cX14_tell 20 = .ok (.getfield 324, 3) := by decide +kernel
theorem dX14_tell_23 : decode cX14_tell 23 = .ok (.bipush 12, 2) := by decide +kernel
theorem dX14_tell_25 : decode cX14_tell 25 = .ok (.if_icmp .ne 9, 3) := by decide +kernel
theorem dX14_tell_28 : decode cX14_tell 28 = .ok (.aload_n 0, 1) := by decide +kernel
theorem dX14_tell_29 : decode cX14_tell 29 = .ok (.iconst 3, 1) := by decide +kernel
theorem dX14_tell_30 : decode cX14_tell 30 = .ok (.invokevirtual 307, 3) := by decide +kernel
theorem dX14_tell_33 : decode cX14_tell 33 = .ok (.ireturn, 1) := by decide +kernel
theorem dX14_tell_34 : decode cX14_tell 34 = .ok (.aload_n 0, 1) := by decide +kernel
theorem dX14_tell_35 : decode cX14_tell 35 = .ok (.getfield 57, 3) := by decide +kernel
theorem dX14_tell_38 : decode cX14_tell 38 = .ok (.aload_n 0, 1) := by decide +kernel
theorem dX14_tell_39 : decode cX14_tell 39 = .ok (.getfield 324, 3) := by decide +kernel
theorem dX14_tell_42 : decode cX14_tell 42 = .ok (.iload_n 1, 1) := by decide +kernel
theorem dX14_tell_43 : decode cX14_tell 43 = .ok (.iastore, 1) := by decide +kernel
theorem dX14_tell_44 : decode cX14_tell 44 = .ok (.aload_n 0, 1) := by decide +kernel
theorem dX14_tell_45 : decode cX14_tell 45 = .ok (.getfield 60, 3) := by decide +kernel
theorem dX14_tell_48 : decode cX14_tell 48 = .ok (.aload_n 0, 1) := by decide +kernel
theorem dX14_tell_49 : decode cX14_tell 49 = .ok (.getfield 324, 3) := by decide +kernel
theorem dX14_tell_52 : decode cX14_tell 52 = .ok (.iload_n 2, 1) := by decide +kernel
theorem dX14_tell_53 : decode cX14_tell 53 = .ok (.iastore, 1) := by decide +kernel
theorem dX14_tell_54 : decode cX14_tell 54 = .ok (.aload_n 0, 1) := by decide +kernel
theorem dX14_tell_55 : decode cX14_tell 55 = .ok (.getfield 63, 3) := by decide +kernel
theorem dX14_tell_58 : decode cX14_tell 58 = .ok (.aload_n 0, 1) := by decide +kernel
theorem dX14_tell_59 : decode cX14_tell 59 = .ok (.getfield 324, 3) := by decide +kernel
theorem dX14_tell_62 : decode cX14_tell 62 = .ok (.iload_n 3, 1) := by decide +kernel
theorem dX14_tell_63 : decode cX14_tell 63 = .ok (.iastore, 1) := by decide +kernel
theorem dX14_tell_64 : decode cX14_tell 64 = .ok (.aload_n 0, 1) := by decide +kernel
theorem dX14_tell_65 : decode cX14_tell 65 = .ok (.getfield 66, 3) := by decide +kernel
theorem dX14_tell_68 : decode cX14_tell 68 = .ok (.aload_n 0, 1) := by decide +kernel
theorem dX14_tell_69 : decode cX14_tell 69 = .ok (.getfield 324, 3) := by decide +kernel
theorem dX14_tell_72 : decode cX14_tell 72 = .ok (.iload 4, 2) := by decide +kernel
theorem dX14_tell_74 : decode cX14_tell 74 = .ok (.iastore, 1) := by decide +kernel
theorem dX14_tell_75 : decode cX14_tell 75 = .ok (.aload_n 0, 1) := by decide +kernel
theorem dX14_tell_76 : decode cX14_tell 76 = .ok (.dup, 1) := by decide +kernel
theorem dX14_tell_77 : decode cX14_tell 77 = .ok (.getfield 324, 3) := by decide +kernel
theorem dX14_tell_80 : decode cX14_tell 80 = .ok (.iconst 1, 1) := by decide +kernel
theorem dX14_tell_81 : decode cX14_tell 81 = .ok (.iadd, 1) := by decide +kernel
theorem dX14_tell_82 : decode cX14_tell 82 = .ok (.putfield 324, 3) := by decide +kernel
theorem dX14_tell_85 : decode cX14_tell 85 = .ok (.aload_n 0, 1) := by decide +kernel
theorem dX14_tell_86 : decode cX14_tell 86 = .ok (.aload_n 0, 1) := by decide +kernel
theorem dX14_tell_87 : decode cX14_tell 87 = .ok (.getfield 324, 3) := by decide +kernel
theorem dX14_tell_90 : decode cX14_tell 90 = .ok (.iconst 1, 1) := by decide +kernel
theorem dX14_tell_91 : decode cX14_tell 91 = .ok (.isub, 1) := by decide +kernel
theorem dX14_tell_92 : decode cX14_tell 92 = .ok (.invokevirtual 333, 3) := by decide +kernel
theorem dX14_tell_95 : decode cX14_tell 95 = .ok (.ireturn, 1) := by decide +kernel
theorem dX14_shownBy_0 : decode cX14_shownBy 0 = .ok (.lconst 0, 1) := by decide +kernel
theorem dX14_shownBy_1 : decode cX14_shownBy 1 = .ok (.lstore_n 1, 1) := by decide +kernel
theorem dX14_shownBy_2 : decode cX14_shownBy 2 = .ok (.iconst 0, 1) := by decide +kernel
theorem dX14_shownBy_3 : decode cX14_shownBy 3 = .ok (.istore_n 3, 1) := by decide +kernel
theorem dX14_shownBy_4 : decode cX14_shownBy 4 = .ok (.iload_n 3, 1) := by decide +kernel
theorem dX14_shownBy_5 : decode cX14_shownBy 5 = .ok (.aload_n 0, 1) := by decide +kernel
theorem dX14_shownBy_6 : decode cX14_shownBy 6 = .ok (.getfield 324, 3) := by decide +kernel
theorem dX14_shownBy_9 : decode cX14_shownBy 9 = .ok (.if_icmp .ge 63, 3) := by decide +kernel
theorem dX14_shownBy_12 : decode cX14_shownBy 12 = .ok (.aload_n 0, 1) := by decide +kernel
theorem dX14_shownBy_13 : decode cX14_shownBy 13 = .ok (.aload_n 0, 1) := by decide +kernel
theorem dX14_shownBy_14 : decode cX14_shownBy 14 = .ok (.getfield 57, 3) := by decide +kernel
theorem dX14_shownBy_17 : decode cX14_shownBy 17 = .ok (.iload_n 3, 1) := by decide +kernel
theorem dX14_shownBy_18 : decode cX14_shownBy 18 = .ok (.iaload, 1) := by decide +kernel
theorem dX14_shownBy_19 : decode cX14_shownBy 19 = .ok (.aload_n 0, 1) := by decide +kernel
theorem dX14_shownBy_20 : decode cX14_shownBy 20 = .ok (.getfield 60, 3) := by decide +kernel
theorem dX14_shownBy_23 : decode cX14_shownBy 23 = .ok (.iload_n 3, 1) := by decide +kernel
theorem dX14_shownBy_24 : decode cX14_shownBy 24 = .ok (.iaload, 1) := by decide +kernel
theorem dX14_shownBy_25 : decode cX14_shownBy 25 = .ok (.aload_n 0, 1) := by decide +kernel
theorem dX14_shownBy_26 : decode cX14_shownBy 26 = .ok (.getfield 63, 3) := by decide +kernel
theorem dX14_shownBy_29 : decode cX14_shownBy 29 = .ok (.iload_n 3, 1) := by decide +kernel
theorem dX14_shownBy_30 : decode cX14_shownBy 30 = .ok (.iaload, 1) := by decide +kernel
theorem dX14_shownBy_31 : decode cX14_shownBy 31 = .ok (.aload_n 0, 1) := by decide +kernel
theorem dX14_shownBy_32 : decode cX14_shownBy 32 = .ok (.getfield 66, 3) := by decide +kernel
theorem dX14_shownBy_35 : decode cX14_shownBy 35 = .ok (.iload_n 3, 1) := by decide +kernel
theorem dX14_shownBy_36 : decode cX14_shownBy 36 = .ok (.iaload, 1) := by decide +kernel
theorem dX14_shownBy_37 : decode cX14_shownBy 37 = .ok (.sipush 2000, 3) := by decide +kernel
theorem dX14_shownBy_40 : decode cX14_shownBy 40 = .ok (.iconst (-1), 1) := by decide +kernel
theorem dX14_shownBy_41 : decode cX14_shownBy 41 = .ok (.invokevirtual 411, 3) := by decide +kernel
theorem dX14_shownBy_44 : decode cX14_shownBy 44 = .ok (.aload_n 0, 1) := by decide +kernel
theorem dX14_shownBy_45 : decode cX14_shownBy 45 = .ok (.getfield 72, 3) := by decide +kernel
theorem dX14_shownBy_48 : decode cX14_shownBy 48 = .ok (.iload_n 3, 1) := by decide +kernel
theorem dX14_shownBy_49 : decode cX14_shownBy 49 = .ok (.aload_n 0, 1) := by decide +kernel
theorem dX14_shownBy_50 : decode cX14_shownBy 50 = .ok (.getfield 44, 3) := by decide +kernel
theorem dX14_shownBy_53 : decode cX14_shownBy 53 = .ok (.getfield 366, 3) := by decide +kernel
theorem dX14_shownBy_56 : decode cX14_shownBy 56 = .ok (.lastore, 1) := by decide +kernel
theorem dX14_shownBy_57 : decode cX14_shownBy 57 = .ok (.lload_n 1, 1) := by decide +kernel
theorem dX14_shownBy_58 : decode cX14_shownBy 58 = .ok (.aload_n 0, 1) := by decide +kernel
theorem dX14_shownBy_59 : decode cX14_shownBy 59 = .ok (.getfield 72, 3) := by decide +kernel
theorem dX14_shownBy_62 : decode cX14_shownBy 62 = .ok (.iload_n 3, 1) := by decide +kernel
theorem dX14_shownBy_63 : decode cX14_shownBy 63 = .ok (.laload, 1) := by decide +kernel
theorem dX14_shownBy_64 : decode cX14_shownBy 64 = .ok (.lor, 1) := by decide +kernel
theorem dX14_shownBy_65 : decode cX14_shownBy 65 = .ok (.lstore_n 1, 1) := by decide +kernel
theorem dX14_shownBy_66 : decode cX14_shownBy 66 = .ok (.iinc 3 1, 3) := by decide +kernel
theorem dX14_shownBy_69 : decode cX14_shownBy 69 = .ok (.goto (-65), 3) := by decide +kernel
theorem dX14_shownBy_72 : decode cX14_shownBy 72 = .ok (.lload_n 1, 1) := by decide +kernel
theorem dX14_shownBy_73 : decode cX14_shownBy 73 = .ok (.lreturn, 1) := by decide +kernel
theorem dX14_shown_0 : decode cX14_shown 0 = .ok (.aload_n 0, 1) := by decide +kernel
theorem dX14_shown_1 : decode cX14_shown 1 = .ok (.iconst 0, 1) := by decide +kernel
theorem dX14_shown_2 : decode cX14_shown 2 = .ok (.putfield 76, 3) := by decide +kernel
theorem dX14_shown_5 : decode cX14_shown 5 = .ok (.aload_n 0, 1) := by decide +kernel
theorem dX14_shown_6 : decode cX14_shown 6 = .ok (.invokevirtual 428, 3) := by decide +kernel
theorem dX14_shown_9 : decode cX14_shown 9 = .ok (.invokestatic 414, 3) := by decide +kernel
theorem dX14_shown_12 : decode cX14_shown 12 = .ok (.ireturn, 1) := by decide +kernel
theorem dX14_fewest_0 : decode cX14_fewest 0 = .ok (.aload_n 0, 1) := by decide +kernel
theorem dX14_fewest_1 : decode cX14_fewest 1 = .ok (.iconst 0, 1) := by decide +kernel
theorem dX14_fewest_2 : decode cX14_fewest 2 = .ok (.putfield 76, 3) := by decide +kernel
theorem dX14_fewest_5 : decode cX14_fewest 5 = .ok (.aload_n 0, 1) := by decide +kernel
theorem dX14_fewest_6 : decode cX14_fewest 6 = .ok (.invokevirtual 428, 3) := by decide +kernel
theorem dX14_fewest_9 : decode cX14_fewest 9 = .ok (.lstore_n 1, 1) := by decide +kernel
theorem dX14_fewest_10 : decode cX14_fewest 10 = .ok (.iconst (-1), 1) := by decide +kernel
theorem dX14_fewest_11 : decode cX14_fewest 11 = .ok (.istore_n 3, 1) := by decide +kernel
theorem dX14_fewest_12 : decode cX14_fewest 12 = .ok (.iconst 0, 1) := by decide +kernel
theorem dX14_fewest_13 : decode cX14_fewest 13 = .ok (.istore 4, 2) := by decide +kernel
theorem dX14_fewest_15 : decode cX14_fewest 15 = .ok (.iload 4, 2) := by decide +kernel
theorem dX14_fewest_17 : decode cX14_fewest 17 = .ok (.iconst 1, 1) := by decide +kernel
theorem dX14_fewest_18 : decode cX14_fewest 18 = .ok (.aload_n 0, 1) := by decide +kernel
theorem dX14_fewest_19 : decode cX14_fewest 19 = .ok (.getfield 324, 3) := by decide +kernel
theorem dX14_fewest_22 : decode cX14_fewest 22 = .ok (.ishl, 1) := by decide +kernel
theorem dX14_fewest_23 : decode cX14_fewest 23 = .ok (.if_icmp .ge 125, 3) := by decide +kernel
theorem dX14_fewest_26 : decode cX14_fewest 26 = .ok (.iload_n 3, 1) := by decide +kernel
theorem dX14_fewest_27 : decode cX14_fewest 27 = .ok (.iconst (-1), 1) := by decide +kernel
theorem dX14_fewest_28 : decode cX14_fewest 28 = .ok (.if_icmp .eq 18, 3) := by decide +kernel
theorem dX14_fewest_31 : decode cX14_fewest 31 = .ok (.iload 4, 2) := by decide +kernel
theorem dX14_fewest_33 : decode cX14_fewest 33 = .ok (.invokestatic 419, 3) := by decide +kernel
theorem dX14_fewest_36 : decode cX14_fewest 36 = .ok (.iload_n 3, 1) := by decide +kernel
theorem dX14_fewest_37 : decode cX14_fewest 37 = .ok (.invokestatic 419, 3) := by decide +kernel
theorem dX14_fewest_40 : decode cX14_fewest 40 = .ok (.if_icmp .le 6, 3) := by decide +kernel
theorem dX14_fewest_43 : decode cX14_fewest 43 = .ok (.goto 99, 3) := by decide +kernel
theorem dX14_fewest_46 : decode cX14_fewest 46 = .ok (.lconst 0, 1) := by decide +kernel
theorem dX14_fewest_47 : decode cX14_fewest 47 = .ok (.lstore 5, 2) := by decide +kernel
theorem dX14_fewest_49 : decode cX14_fewest 49 = .ok (.iconst 0, 1) := by decide +kernel
theorem dX14_fewest_50 : decode cX14_fewest 50 = .ok (.istore 7, 2) := by decide +kernel
theorem dX14_fewest_52 : decode cX14_fewest 52 = .ok (.iload 7, 2) := by decide +kernel
theorem dX14_fewest_54 : decode cX14_fewest 54 = .ok (.aload_n 0, 1) := by decide +kernel
theorem dX14_fewest_55 : decode cX14_fewest 55 = .ok (.getfield 324, 3) := by decide +kernel
theorem dX14_fewest_58 : decode cX14_fewest 58 = .ok (.if_icmp .ge 36, 3) := by decide +kernel
theorem dX14_fewest_61 : decode cX14_fewest 61 = .ok (.lload 5, 2) := by decide +kernel
theorem dX14_fewest_63 : decode cX14_fewest 63 = .ok (.iload 4, 2) := by decide +kernel
theorem dX14_fewest_65 : decode cX14_fewest 65 = .ok (.iload 7, 2) := by decide +kernel
theorem dX14_fewest_67 : decode cX14_fewest 67 = .ok (.ishr, 1) := by decide +kernel
theorem dX14_fewest_68 : decode cX14_fewest 68 = .ok (.iconst 1, 1) := by decide +kernel
theorem dX14_fewest_69 : decode cX14_fewest 69 = .ok (.iand, 1) := by decide +kernel
theorem dX14_fewest_70 : decode cX14_fewest 70 = .ok (.iconst 1, 1) := by decide +kernel
theorem dX14_fewest_71 : decode cX14_fewest 71 = .ok (.if_icmp .ne 13, 3) := by decide +kernel
theorem dX14_fewest_74 : decode cX14_fewest 74 = .ok (.aload_n 0, 1) := by decide +kernel
theorem dX14_fewest_75 : decode cX14_fewest 75 = .ok (.getfield 72, 3) := by decide +kernel
theorem dX14_fewest_78 : decode cX14_fewest 78 = .ok (.iload 7, 2) := by decide +kernel
theorem dX14_fewest_80 : decode cX14_fewest 80 = .ok (.laload, 1) := by decide +kernel
theorem dX14_fewest_81 : decode cX14_fewest 81 = .ok (.goto 4, 3) := by decide +kernel
theorem dX14_fewest_84 : decode cX14_fewest 84 = .ok (.lconst 0, 1) := by decide +kernel
theorem dX14_fewest_85 : decode cX14_fewest 85 = .ok (.lor, 1) := by decide +kernel
theorem dX14_fewest_86 : decode cX14_fewest 86 = .ok (.lstore 5, 2) := by decide +kernel
theorem dX14_fewest_88 : decode cX14_fewest 88 = .ok (.iinc 7 1, 3) := by decide +kernel
theorem dX14_fewest_91 : decode cX14_fewest 91 = .ok (.goto (-39), 3) := by decide +kernel
theorem dX14_fewest_94 : decode cX14_fewest 94 = .ok (.iload 4, 2) := by decide +kernel
theorem dX14_fewest_96 : decode cX14_fewest 96 = .ok (.iload_n 3, 1) := by decide +kernel
theorem dX14_fewest_97 : decode cX14_fewest 97 = .ok (.ixor, 1) := by decide +kernel
theorem dX14_fewest_98 : decode cX14_fewest 98 = .ok (.istore 7, 2) := by decide +kernel
theorem dX14_fewest_100 : decode cX14_fewest 100 = .ok (.lload 5, 2) := by decide +kernel
theorem dX14_fewest_102 : decode cX14_fewest 102 = .ok (.lload_n 1, 1) := by decide +kernel
theorem dX14_fewest_103 : decode cX14_fewest 103 = .ok (.lcmp, 1) := by decide +kernel
theorem dX14_fewest_104 : decode cX14_fewest 104 = .ok (.ifCond .ne 38, 3) := by decide +kernel
theorem dX14_fewest_107 : decode cX14_fewest 107 = .ok (.iload_n 3, 1) := by decide +kernel
theorem dX14_fewest_108 : decode cX14_fewest 108 = .ok (.iconst (-1), 1) := by decide +kernel
theorem dX14_fewest_109 : decode cX14_fewest 109 = .ok (.if_icmp .eq 30, 3) := by decide +kernel
theorem dX14_fewest_112 : decode cX14_fewest 112 = .ok (.iload 4, 2) := by decide +kernel
theorem dX14_fewest_114 : decode cX14_fewest 114 = .ok (.invokestatic 419, 3) := by decide +kernel
theorem dX14_fewest_117 : decode cX14_fewest 117 = .ok (.iload_n 3, 1) := by decide +kernel
theorem dX14_fewest_118 : decode cX14_fewest 118 = .ok (.invokestatic 419, 3) := by decide +kernel
theorem dX14_fewest_121 : decode cX14_fewest 121 = .ok (.if_icmp .ne 18, 3) := by decide +kernel
theorem dX14_fewest_124 : decode cX14_fewest 124 = .ok (.iload 7, 2) := by decide +kernel
theorem dX14_fewest_126 : decode cX14_fewest 126 = .ok (.iload 7, 2) := by decide +kernel
theorem dX14_fewest_128 : decode cX14_fewest 128 = .ok (.ineg, 1) := by decide +kernel
theorem dX14_fewest_129 : decode cX14_fewest 129 = .ok (.iand, 1) := by decide +kernel
theorem dX14_fewest_130 : decode cX14_fewest 130 = .ok (.iload 4, 2) := by decide +kernel
theorem dX14_fewest_132 : decode cX14_fewest 132 = .ok (.iand, 1) := by decide +kernel
theorem dX14_fewest_133 : decode cX14_fewest 133 = .ok (.ifCond .ne 6, 3) := by decide +kernel
theorem dX14_fewest_136 : decode cX14_fewest 136 = .ok (.goto 6, 3) := by decide +kernel
theorem dX14_fewest_139 : decode cX14_fewest 139 = .ok (.iload 4, 2) := by decide +kernel
theorem dX14_fewest_141 : decode cX14_fewest 141 = .ok (.istore_n 3, 1) := by decide +kernel
theorem dX14_fewest_142 : decode cX14_fewest 142 = .ok (.iinc 4 1, 3) := by decide +kernel
theorem dX14_fewest_145 : decode cX14_fewest 145 = .ok (.goto (-130), 3) := by decide +kernel
theorem dX14_fewest_148 : decode cX14_fewest 148 = .ok (.aload_n 0, 1) := by decide +kernel
theorem dX14_fewest_149 : decode cX14_fewest 149 = .ok (.iconst 0, 1) := by decide +kernel
theorem dX14_fewest_150 : decode cX14_fewest 150 = .ok (.putfield 327, 3) := by decide +kernel
theorem dX14_fewest_153 : decode cX14_fewest 153 = .ok (.iconst 0, 1) := by decide +kernel
theorem dX14_fewest_154 : decode cX14_fewest 154 = .ok (.istore 4, 2) := by decide +kernel
theorem dX14_fewest_156 : decode cX14_fewest 156 = .ok (.iload 4, 2) := by decide +kernel
theorem dX14_fewest_158 : decode cX14_fewest 158 = .ok (.aload_n 0, 1) := by decide +kernel
theorem dX14_fewest_159 : decode cX14_fewest 159 = .ok (.getfield 324, 3) := by decide +kernel
theorem dX14_fewest_162 : decode cX14_fewest 162 = .ok (.if_icmp .ge 42, 3) := by decide +kernel
theorem dX14_fewest_165 : decode cX14_fewest 165 = .ok (.iload_n 3, 1) := by decide +kernel
theorem dX14_fewest_166 : decode cX14_fewest 166 = .ok (.iload 4, 2) := by decide +kernel
theorem dX14_fewest_168 : decode cX14_fewest 168 = .ok (.ishr, 1) := by decide +kernel
theorem dX14_fewest_169 : decode cX14_fewest 169 = .ok (.iconst 1, 1) := by decide +kernel
theorem dX14_fewest_170 : decode cX14_fewest 170 = .ok (.iand, 1) := by decide +kernel
theorem dX14_fewest_171 : decode cX14_fewest 171 = .ok (.ifCond .ne 6, 3) := by decide +kernel
theorem dX14_fewest_174 : decode cX14_fewest 174 = .ok (.goto 24, 3) := by decide +kernel
theorem dX14_fewest_177 : decode cX14_fewest 177 = .ok (.aload_n 0, 1) := by decide +kernel
theorem dX14_fewest_178 : decode cX14_fewest 178 = .ok (.getfield 69, 3) := by decide +kernel
theorem dX14_fewest_181 : decode cX14_fewest 181 = .ok (.aload_n 0, 1) := by decide +kernel
theorem dX14_fewest_182 : decode cX14_fewest 182 = .ok (.getfield 327, 3) := by decide +kernel
theorem dX14_fewest_185 : decode cX14_fewest 185 = .ok (.iload 4, 2) := by decide +kernel
theorem dX14_fewest_187 : decode cX14_fewest 187 = .ok (.iastore, 1) := by decide +kernel
theorem dX14_fewest_188 : decode cX14_fewest 188 = .ok (.aload_n 0, 1) := by decide +kernel
theorem dX14_fewest_189 : decode cX14_fewest 189 = .ok (.dup, 1) := by decide +kernel
theorem dX14_fewest_190 : decode cX14_fewest 190 = .ok (.getfield 327, 3) := by decide +kernel
theorem dX14_fewest_193 : decode cX14_fewest 193 = .ok (.iconst 1, 1) := by decide +kernel
theorem dX14_fewest_194 : decode cX14_fewest 194 = .ok (.iadd, 1) := by decide +kernel
theorem dX14_fewest_195 : decode cX14_fewest 195 = .ok (.putfield 327, 3) := by decide +kernel
theorem dX14_fewest_198 : decode cX14_fewest 198 = .ok (.iinc 4 1, 3) := by decide +kernel
theorem dX14_fewest_201 : decode cX14_fewest 201 = .ok (.goto (-45), 3) := by decide +kernel
theorem dX14_fewest_204 : decode cX14_fewest 204 = .ok (.aload_n 0, 1) := by decide +kernel
theorem dX14_fewest_205 : decode cX14_fewest 205 = .ok (.getfield 327, 3) := by decide +kernel
theorem dX14_fewest_208 : decode cX14_fewest 208 = .ok (.ireturn, 1) := by decide +kernel
theorem dX14_picked_0 : decode cX14_picked 0 = .ok (.aload_n 0, 1) := by decide +kernel
theorem dX14_picked_1 : decode cX14_picked 1 = .ok (.iconst 0, 1) := by decide +kernel
theorem dX14_picked_2 : decode cX14_picked 2 = .ok (.putfield 76, 3) := by decide +kernel
theorem dX14_picked_5 : decode cX14_picked 5 = .ok (.iload_n 1, 1) := by decide +kernel
theorem dX14_picked_6 : decode cX14_picked 6 = .ok (.ifCond .lt 20, 3) := by decide +kernel
theorem dX14_picked_9 : decode cX14_picked 9 = .ok (.iload_n 1, 1) := by decide +kernel
theorem dX14_picked_10 : decode cX14_picked 10 = .ok (.aload_n 0, 1) := by decide +kernel
theorem dX14_picked_11 : decode cX14_picked 11 = .ok (.getfield 327, 3) := by decide +kernel
theorem dX14_picked_14 : decode cX14_picked 14 = .ok (.if_icmp .ge 12, 3) := by decide +kernel
theorem dX14_picked_17 : decode cX14_picked 17 = .ok (.aload_n 0, 1) := by decide +kernel
theorem dX14_picked_18 : decode cX14_picked 18 = .ok (.getfield 69, 3) := by decide +kernel
theorem dX14_picked_21 : decode cX14_picked 21 = .ok (.iload_n 1, 1) := by decide +kernel
theorem dX14_picked_22 : decode cX14_picked 22 = .ok (.iaload, 1) := by decide +kernel
theorem dX14_picked_23 : decode cX14_picked 23 = .ok (.goto 4, 3) := by decide +kernel
theorem dX14_picked_26 : decode cX14_picked 26 = .ok (.iconst (-1), 1) := by decide +kernel
theorem dX14_picked_27 : decode cX14_picked 27 = .ok (.ireturn, 1) := by decide +kernel
theorem dX14_anew_0 : decode cX14_anew 0 = .ok (.aload_n 0, 1) := by decide +kernel
theorem dX14_anew_1 : decode cX14_anew 1 = .ok (.iconst 0, 1) := by decide +kernel
theorem dX14_anew_2 : decode cX14_anew 2 = .ok (.putfield 76, 3) := by decide +kernel
theorem dX14_anew_5 : decode cX14_anew 5 = .ok (.aload_n 0, 1) := by decide +kernel
theorem dX14_anew_6 : decode cX14_anew 6 = .ok (.iload_n 1, 1) := by decide +kernel
theorem dX14_anew_7 : decode cX14_anew 7 = .ok (.invokevirtual 336, 3) := by decide +kernel
theorem dX14_anew_10 : decode cX14_anew 10 = .ok (.ifCond .ne 5, 3) := by decide +kernel
theorem dX14_anew_13 : decode cX14_anew 13 = .ok (.iconst (-1), 1) := by decide +kernel
theorem dX14_anew_14 : decode cX14_anew 14 = .ok (.ireturn, 1) := by decide +kernel
theorem dX14_anew_15 : decode cX14_anew 15 = .ok (.aload_n 0, 1) := by decide +kernel
theorem dX14_anew_16 : decode cX14_anew 16 = .ok (.iload_n 1, 1) := by decide +kernel
theorem dX14_anew_17 : decode cX14_anew 17 = .ok (.invokevirtual 436, 3) := by decide +kernel
theorem dX14_anew_20 : decode cX14_anew 20 = .ok (.ifCond .eq 5, 3) := by decide +kernel
theorem dX14_anew_23 : decode cX14_anew 23 = .ok (.iconst 2, 1) := by decide +kernel
theorem dX14_anew_24 : decode cX14_anew 24 = .ok (.ireturn, 1) := by decide +kernel
theorem dX14_anew_25 : decode cX14_anew 25 = .ok (.aload_n 0, 1) := by decide +kernel
theorem dX14_anew_26 : decode cX14_anew 26 = .ok (.getfield 16, 3) := by decide +kernel
theorem dX14_anew_29 : decode cX14_anew 29 = .ok (.getfield 301, 3) := by decide +kernel
theorem dX14_anew_32 : decode cX14_anew 32 = .ok (.iload_n 1, 1) := by decide +kernel
theorem dX14_anew_33 : decode cX14_anew 33 = .ok (.iaload, 1) := by decide +kernel
theorem dX14_anew_34 : decode cX14_anew 34 = .ok (.istore_n 2, 1) := by decide +kernel
theorem dX14_anew_35 : decode cX14_anew 35 = .ok (.iconst (-1), 1) := by decide +kernel
theorem dX14_anew_36 : decode cX14_anew 36 = .ok (.istore_n 3, 1) := by decide +kernel
theorem dX14_anew_37 : decode cX14_anew 37 = .ok (.iload_n 2, 1) := by decide +kernel
theorem dX14_anew_38 : decode cX14_anew 38 = .ok (.iload_n 3, 1) := by decide +kernel
theorem dX14_anew_39 : decode cX14_anew 39 = .ok (.if_icmp .eq 56, 3) := by decide +kernel
theorem dX14_anew_42 : decode cX14_anew 42 = .ok (.iload_n 2, 1) := by decide +kernel
theorem dX14_anew_43 : decode cX14_anew 43 = .ok (.istore_n 3, 1) := by decide +kernel
theorem dX14_anew_44 : decode cX14_anew 44 = .ok (.iconst 0, 1) := by decide +kernel
theorem dX14_anew_45 : decode cX14_anew 45 = .ok (.istore 4, 2) := by decide +kernel
theorem dX14_anew_47 : decode cX14_anew 47 = .ok (.iload 4, 2) := by decide +kernel
theorem dX14_anew_49 : decode cX14_anew 49 = .ok (.aload_n 0, 1) := by decide +kernel
theorem dX14_anew_50 : decode cX14_anew 50 = .ok (.getfield 16, 3) := by decide +kernel
theorem dX14_anew_53 : decode cX14_anew 53 = .ok (.getfield 168, 3) := by decide +kernel
theorem dX14_anew_56 : decode cX14_anew 56 = .ok (.if_icmp .ge 36, 3) := by decide +kernel
theorem dX14_anew_59 : decode cX14_anew 59 = .ok (.iload_n 2, 1) := by decide +kernel
theorem dX14_anew_60 : decode cX14_anew 60 = .ok (.iload_n 2, 1) := by decide +kernel
theorem dX14_anew_61 : decode cX14_anew 61 = .ok (.iload 4, 2) := by decide +kernel
theorem dX14_anew_63 : decode cX14_anew 63 = .ok (.ishr, 1) := by decide +kernel
theorem dX14_anew_64 : decode cX14_anew 64 = .ok (.iconst 1, 1) := by decide +kernel
theorem dX14_anew_65 : decode cX14_anew 65 = .ok (.iand, 1) := by decide +kernel
theorem dX14_anew_66 : decode cX14_anew 66 = .ok (.iconst 1, 1) := by decide +kernel
theorem dX14_anew_67 : decode cX14_anew 67 = .ok (.if_icmp .ne 16, 3) := by decide +kernel
theorem dX14_anew_70 : decode cX14_anew 70 = .ok (.aload_n 0, 1) := by decide +kernel
theorem dX14_anew_71 : decode cX14_anew 71 = .ok (.getfield 16, 3) := by decide +kernel
theorem dX14_anew_74 : decode cX14_anew 74 = .ok (.getfield 301, 3) := by decide +kernel
theorem dX14_anew_77 : decode cX14_anew 77 = .ok (.iload 4, 2) := by decide +kernel
theorem dX14_anew_79 : decode cX14_anew 79 = .ok (.iaload, 1) := by decide +kernel
theorem dX14_anew_80 : decode cX14_anew 80 = .ok (.goto 4, 3) := by decide +kernel
theorem dX14_anew_83 : decode cX14_anew 83 = .ok (.iconst 0, 1) := by decide +kernel
theorem dX14_anew_84 : decode cX14_anew 84 = .ok (.ior, 1) := by decide +kernel
theorem dX14_anew_85 : decode cX14_anew 85 = .ok (.istore_n 2, 1) := by decide +kernel
theorem dX14_anew_86 : decode cX14_anew 86 = .ok (.iinc 4 1, 3) := by decide +kernel
theorem dX14_anew_89 : decode cX14_anew 89 = .ok (.goto (-42), 3) := by decide +kernel
theorem dX14_anew_92 : decode cX14_anew 92 = .ok (.goto (-55), 3) := by decide +kernel
theorem dX14_anew_95 : decode cX14_anew 95 = .ok (.iconst 0, 1) := by decide +kernel
theorem dX14_anew_96 : decode cX14_anew 96 = .ok (.istore 4, 2) := by decide +kernel
theorem dX14_anew_98 : decode cX14_anew 98 = .ok (.iconst 0, 1) := by decide +kernel
theorem dX14_anew_99 : decode cX14_anew 99 = .ok (.istore 5, 2) := by decide +kernel
theorem dX14_anew_101 : decode cX14_anew 101 = .ok (.iload 5, 2) := by decide +kernel
theorem dX14_anew_103 : decode cX14_anew 103 = .ok (.aload_n 0, 1) := by decide +kernel
theorem dX14_anew_104 : decode cX14_anew 104 = .ok (.getfield 16, 3) := by decide +kernel
theorem dX14_anew_107 : decode cX14_anew 107 = .ok (.getfield 168, 3) := by decide +kernel
theorem dX14_anew_110 : decode cX14_anew 110 = .ok (.if_icmp .ge 40, 3) := by decide +kernel
theorem dX14_anew_113 : decode cX14_anew 113 = .ok (.iload 4, 2) := by decide +kernel
theorem dX14_anew_115 : decode cX14_anew 115 = .ok (.ifCond .ne 22, 3) := by decide +kernel
theorem dX14_anew_118 : decode cX14_anew 118 = .ok (.iload_n 2, 1) := by decide +kernel
theorem dX14_anew_119 : decode cX14_anew 119 = .ok (.iload 5, 2) := by decide +kernel
theorem dX14_anew_121 : decode cX14_anew 121 = .ok (.ishr, 1) := by decide +kernel
theorem dX14_anew_122 : decode cX14_anew 122 = .ok (.iconst 1, 1) := by decide +kernel
theorem dX14_anew_123 : decode cX14_anew 123 = .ok (.iand, 1) := by decide +kernel
theorem dX14_anew_124 : decode cX14_anew 124 = .ok (.iconst 1, 1) := by decide +kernel
theorem dX14_anew_125 : decode cX14_anew 125 = .ok (.if_icmp .ne 16, 3) := by decide +kernel
theorem dX14_anew_128 : decode cX14_anew 128 = .ok (.aload_n 0, 1) := by decide +kernel
theorem dX14_anew_129 : decode cX14_anew 129 = .ok (.iload 5, 2) := by decide +kernel
theorem dX14_anew_131 : decode cX14_anew 131 = .ok (.invokevirtual 436, 3) := by decide +kernel
theorem dX14_anew_134 : decode cX14_anew 134 = .ok (.ifCond .eq 7, 3) := by decide +kernel
theorem dX14_anew_137 : decode cX14_anew 137 = .ok (.iconst 1, 1) := by decide +kernel
theorem dX14_anew_138 : decode cX14_anew 138 = .ok (.goto 4, 3) := by decide +kernel
theorem dX14_anew_141 : decode cX14_anew 141 = .ok (.iconst 0, 1) := by decide +kernel
theorem dX14_anew_142 : decode cX14_anew 142 = .ok (.istore 4, 2) := by decide +kernel
theorem dX14_anew_144 : decode cX14_anew 144 = .ok (.iinc 5 1, 3) := by decide +kernel
theorem dX14_anew_147 : decode cX14_anew 147 = .ok (.goto (-46), 3) := by decide +kernel
theorem dX14_anew_150 : decode cX14_anew 150 = .ok (.iload 4, 2) := by decide +kernel
theorem dX14_anew_152 : decode cX14_anew 152 = .ok (.ifCond .eq 7, 3) := by decide +kernel
theorem dX14_anew_155 : decode cX14_anew 155 = .ok (.iconst 1, 1) := by decide +kernel
theorem dX14_anew_156 : decode cX14_anew 156 = .ok (.goto 4, 3) := by decide +kernel
theorem dX14_anew_159 : decode cX14_anew 159 = .ok (.iconst 0, 1) := by decide +kernel
theorem dX14_anew_160 : decode cX14_anew 160 = .ok (.ireturn, 1) := by decide +kernel
theorem dX14_gone_0 : decode cX14_gone 0 = .ok (.aload_n 0, 1) := by decide +kernel
theorem dX14_gone_1 : decode cX14_gone 1 = .ok (.iconst 0, 1) := by decide +kernel
theorem dX14_gone_2 : decode cX14_gone 2 = .ok (.putfield 76, 3) := by decide +kernel
theorem dX14_gone_5 : decode cX14_gone 5 = .ok (.iconst 0, 1) := by decide +kernel
theorem dX14_gone_6 : decode cX14_gone 6 = .ok (.istore_n 1, 1) := by decide +kernel
theorem dX14_gone_7 : decode cX14_gone 7 = .ok (.iconst 0, 1) := by decide +kernel
theorem dX14_gone_8 : decode cX14_gone 8 = .ok (.istore_n 2, 1) := by decide +kernel
theorem dX14_gone_9 : decode cX14_gone 9 = .ok (.aload_n 0, 1) := by decide +kernel
theorem dX14_gone_10 : decode cX14_gone 10 = .ok (.getfield 321, 3) := by decide +kernel
theorem dX14_gone_13 : decode cX14_gone 13 = .ok (.ifCond .eq 48, 3) := by decide +kernel
theorem dX14_gone_16 : decode cX14_gone 16 = .ok (.iload_n 2, 1) := by decide +kernel
theorem dX14_gone_17 : decode cX14_gone 17 = .ok (.aload_n 0, 1) := by decide +kernel
theorem dX14_gone_18 : decode cX14_gone 18 = .ok (.getfield 20, 3) := by decide +kernel
theorem dX14_gone_21 : decode cX14_gone 21 = .ok (.getfield 168, 3) := by decide +kernel
theorem dX14_gone_24 : decode cX14_gone 24 = .ok (.if_icmp .ge 37, 3) := by decide +kernel
theorem dX14_gone_27 : decode cX14_gone 27 = .ok (.iload_n 1, 1) := by decide +kernel
theorem dX14_gone_28 : decode cX14_gone 28 = .ok (.aload_n 0, 1) := by decide +kernel
theorem dX14_gone_29 : decode cX14_gone 29 = .ok (.getfield 16, 3) := by decide +kernel
theorem dX14_gone_32 : decode cX14_gone 32 = .ok (.aload_n 0, 1) := by decide +kernel
theorem dX14_gone_33 : decode cX14_gone 33 = .ok (.getfield 20, 3) := by decide +kernel
theorem dX14_gone_36 : decode cX14_gone 36 = .ok (.getfield 215, 3) := by decide +kernel
theorem dX14_gone_39 : decode cX14_gone 39 = .ok (.iload_n 2, 1) := by decide +kernel
theorem dX14_gone_40 : decode cX14_gone 40 = .ok (.laload, 1) := by decide +kernel
theorem dX14_gone_41 : decode cX14_gone 41 = .ok (.invokevirtual 192, 3) := by decide +kernel
theorem dX14_gone_44 : decode cX14_gone 44 = .ok (.iconst (-1), 1) := by decide +kernel
theorem dX14_gone_45 : decode cX14_gone 45 = .ok (.if_icmp .ne 7, 3) := by decide +kernel
theorem dX14_gone_48 : decode cX14_gone 48 = .ok (.iconst 1, 1) := by decide +kernel
theorem dX14_gone_49 : decode cX14_gone 49 = .ok (.goto 4, 3) := by decide +kernel
theorem dX14_gone_52 : decode cX14_gone 52 = .ok (.iconst 0, 1) := by decide +kernel
theorem dX14_gone_53 : decode cX14_gone 53 = .ok (.iadd, 1) := by decide +kernel
theorem dX14_gone_54 : decode cX14_gone 54 = .ok (.istore_n 1, 1) := by decide +kernel
theorem dX14_gone_55 : decode cX14_gone 55 = .ok (.iinc 2 1, 3) := by decide +kernel
theorem dX14_gone_58 : decode cX14_gone 58 = .ok (.goto (-49), 3) := by decide +kernel
theorem dX14_gone_61 : decode cX14_gone 61 = .ok (.iload_n 1, 1) := by decide +kernel
theorem dX14_gone_62 : decode cX14_gone 62 = .ok (.ireturn, 1) := by decide +kernel
theorem dX14_count_0 : decode cX14_count 0 = .ok (.aload_n 0, 1) := by decide +kernel
theorem dX14_count_1 : decode cX14_count 1 = .ok (.iconst 0, 1) := by decide +kernel
theorem dX14_count_2 : decode cX14_count 2 = .ok (.putfield 76, 3) := by decide +kernel
theorem dX14_count_5 : decode cX14_count 5 = .ok (.iload_n 1, 1) := by decide +kernel
theorem dX14_count_6 : decode cX14_count 6 = .ok (.tableswitch 78 0 3 #[30, 49, 68, 73], 30) := by decide +kernel
theorem dX14_count_36 : decode cX14_count 36 = .ok (.aload_n 0, 1) := by decide +kernel
theorem dX14_count_37 : decode cX14_count 37 = .ok (.getfield 318, 3) := by decide +kernel
theorem dX14_count_40 : decode cX14_count 40 = .ok (.ifCond .eq 13, 3) := by decide +kernel
theorem dX14_count_43 : decode cX14_count 43 = .ok (.aload_n 0, 1) := by decide +kernel
theorem dX14_count_44 : decode cX14_count 44 = .ok (.getfield 16, 3) := by decide +kernel
theorem dX14_count_47 : decode cX14_count 47 = .ok (.getfield 168, 3) := by decide +kernel
theorem dX14_count_50 : decode cX14_count 50 = .ok (.goto 4, 3) := by decide +kernel
theorem dX14_count_53 : decode cX14_count 53 = .ok (.iconst 0, 1) := by decide +kernel
theorem dX14_count_54 : decode cX14_count 54 = .ok (.ireturn, 1) := by decide +kernel
theorem dX14_count_55 : decode cX14_count 55 = .ok (.aload_n 0, 1) := by decide +kernel
theorem dX14_count_56 : decode cX14_count 56 = .ok (.getfield 318, 3) := by decide +kernel
theorem dX14_count_59 : decode cX14_count 59 = .ok (.ifCond .eq 13, 3) := by decide +kernel
theorem dX14_count_62 : decode cX14_count 62 = .ok (.aload_n 0, 1) := by decide +kernel
theorem dX14_count_63 : decode cX14_count 63 = .ok (.getfield 16, 3) := by decide +kernel
theorem dX14_count_66 : decode cX14_count 66 = .ok (.getfield 171, 3) := by decide +kernel
theorem dX14_count_69 : decode cX14_count 69 = .ok (.goto 4, 3) := by decide +kernel
theorem dX14_count_72 : decode cX14_count 72 = .ok (.iconst 0, 1) := by decide +kernel
theorem dX14_count_73 : decode cX14_count 73 = .ok (.ireturn, 1) := by decide +kernel
theorem dX14_count_74 : decode cX14_count 74 = .ok (.aload_n 0, 1) := by decide +kernel
theorem dX14_count_75 : decode cX14_count 75 = .ok (.getfield 324, 3) := by decide +kernel
theorem dX14_count_78 : decode cX14_count 78 = .ok (.ireturn, 1) := by decide +kernel
theorem dX14_count_79 : decode cX14_count 79 = .ok (.aload_n 0, 1) := by decide +kernel
theorem dX14_count_80 : decode cX14_count 80 = .ok (.getfield 304, 3) := by decide +kernel
theorem dX14_count_83 : decode cX14_count 83 = .ok (.ireturn, 1) := by decide +kernel
theorem dX14_count_84 : decode cX14_count 84 = .ok (.iconst (-1), 1) := by decide +kernel
theorem dX14_count_85 : decode cX14_count 85 = .ok (.ireturn, 1) := by decide +kernel
theorem dX14_trouble_0 : decode cX14_trouble 0 = .ok (.aload_n 0, 1) := by decide +kernel
theorem dX14_trouble_1 : decode cX14_trouble 1 = .ok (.iconst 0, 1) := by decide +kernel
theorem dX14_trouble_2 : decode cX14_trouble 2 = .ok (.putfield 76, 3) := by decide +kernel
theorem dX14_trouble_5 : decode cX14_trouble 5 = .ok (.aload_n 0, 1) := by decide +kernel
theorem dX14_trouble_6 : decode cX14_trouble 6 = .ok (.getfield 79, 3) := by decide +kernel
theorem dX14_trouble_9 : decode cX14_trouble 9 = .ok (.ireturn, 1) := by decide +kernel
theorem dJ6_bitCount_0f7a4_0 : decode cJ6_bitCount_0f7a4 0 = .ok (.iload_n 0, 1) := by decide +kernel
theorem dJ6_bitCount_0f7a4_1 : decode cJ6_bitCount_0f7a4 1 = .ok (.iload_n 0, 1) := by decide +kernel
theorem dJ6_bitCount_0f7a4_2 : decode cJ6_bitCount_0f7a4 2 = .ok (.iconst 1, 1) := by decide +kernel
theorem dJ6_bitCount_0f7a4_3 : decode cJ6_bitCount_0f7a4 3 = .ok (.iushr, 1) := by decide +kernel
theorem dJ6_bitCount_0f7a4_4 : decode cJ6_bitCount_0f7a4 4 = .ok (.ldc_w 265, 3) := by decide +kernel
theorem dJ6_bitCount_0f7a4_7 : decode cJ6_bitCount_0f7a4 7 = .ok (.iand, 1) := by decide +kernel
theorem dJ6_bitCount_0f7a4_8 : decode cJ6_bitCount_0f7a4 8 = .ok (.isub, 1) := by decide +kernel
theorem dJ6_bitCount_0f7a4_9 : decode cJ6_bitCount_0f7a4 9 = .ok (.istore_n 0, 1) := by decide +kernel
theorem dJ6_bitCount_0f7a4_10 : decode cJ6_bitCount_0f7a4 10 = .ok (.iload_n 0, 1) := by decide +kernel
theorem dJ6_bitCount_0f7a4_11 : decode cJ6_bitCount_0f7a4 11 = .ok (.ldc_w 266, 3) := by decide +kernel
theorem dJ6_bitCount_0f7a4_14 : decode cJ6_bitCount_0f7a4 14 = .ok (.iand, 1) := by decide +kernel
theorem dJ6_bitCount_0f7a4_15 : decode cJ6_bitCount_0f7a4 15 = .ok (.iload_n 0, 1) := by decide +kernel
theorem dJ6_bitCount_0f7a4_16 : decode cJ6_bitCount_0f7a4 16 = .ok (.iconst 2, 1) := by decide +kernel
theorem dJ6_bitCount_0f7a4_17 : decode cJ6_bitCount_0f7a4 17 = .ok (.iushr, 1) := by decide +kernel
theorem dJ6_bitCount_0f7a4_18 : decode cJ6_bitCount_0f7a4 18 = .ok (.ldc_w 266, 3) := by decide +kernel
theorem dJ6_bitCount_0f7a4_21 : decode cJ6_bitCount_0f7a4 21 = .ok (.iand, 1) := by decide +kernel
theorem dJ6_bitCount_0f7a4_22 : decode cJ6_bitCount_0f7a4 22 = .ok (.iadd, 1) := by decide +kernel
theorem dJ6_bitCount_0f7a4_23 : decode cJ6_bitCount_0f7a4 23 = .ok (.istore_n 0, 1) := by decide +kernel
theorem dJ6_bitCount_0f7a4_24 : decode cJ6_bitCount_0f7a4 24 = .ok (.iload_n 0, 1) := by decide +kernel
theorem dJ6_bitCount_0f7a4_25 : decode cJ6_bitCount_0f7a4 25 = .ok (.iload_n 0, 1) := by decide +kernel
theorem dJ6_bitCount_0f7a4_26 : decode cJ6_bitCount_0f7a4 26 = .ok (.iconst 4, 1) := by decide +kernel
theorem dJ6_bitCount_0f7a4_27 : decode cJ6_bitCount_0f7a4 27 = .ok (.iushr, 1) := by decide +kernel
theorem dJ6_bitCount_0f7a4_28 : decode cJ6_bitCount_0f7a4 28 = .ok (.iadd, 1) := by decide +kernel
theorem dJ6_bitCount_0f7a4_29 : decode cJ6_bitCount_0f7a4 29 = .ok (.ldc_w 267, 3) := by decide +kernel
theorem dJ6_bitCount_0f7a4_32 : decode cJ6_bitCount_0f7a4 32 = .ok (.iand, 1) := by decide +kernel
theorem dJ6_bitCount_0f7a4_33 : decode cJ6_bitCount_0f7a4 33 = .ok (.istore_n 0, 1) := by decide +kernel
theorem dJ6_bitCount_0f7a4_34 : decode cJ6_bitCount_0f7a4 34 = .ok (.iload_n 0, 1) := by decide +kernel
theorem dJ6_bitCount_0f7a4_35 : decode cJ6_bitCount_0f7a4 35 = .ok (.iload_n 0, 1) := by decide +kernel
theorem dJ6_bitCount_0f7a4_36 : decode cJ6_bitCount_0f7a4 36 = .ok (.bipush 8, 2) := by decide +kernel
theorem dJ6_bitCount_0f7a4_38 : decode cJ6_bitCount_0f7a4 38 = .ok (.iushr, 1) := by decide +kernel
theorem dJ6_bitCount_0f7a4_39 : decode cJ6_bitCount_0f7a4 39 = .ok (.iadd, 1) := by decide +kernel
theorem dJ6_bitCount_0f7a4_40 : decode cJ6_bitCount_0f7a4 40 = .ok (.istore_n 0, 1) := by decide +kernel
theorem dJ6_bitCount_0f7a4_41 : decode cJ6_bitCount_0f7a4 41 = .ok (.iload_n 0, 1) := by decide +kernel
theorem dJ6_bitCount_0f7a4_42 : decode cJ6_bitCount_0f7a4 42 = .ok (.iload_n 0, 1) := by decide +kernel
theorem dJ6_bitCount_0f7a4_43 : decode cJ6_bitCount_0f7a4 43 = .ok (.bipush 16, 2) := by decide +kernel
theorem dJ6_bitCount_0f7a4_45 : decode cJ6_bitCount_0f7a4 45 = .ok (.iushr, 1) := by decide +kernel
theorem dJ6_bitCount_0f7a4_46 : decode cJ6_bitCount_0f7a4 46 = .ok (.iadd, 1) := by decide +kernel
theorem dJ6_bitCount_0f7a4_47 : decode cJ6_bitCount_0f7a4 47 = .ok (.istore_n 0, 1) := by decide +kernel
theorem dJ6_bitCount_0f7a4_48 : decode cJ6_bitCount_0f7a4 48 = .ok (.iload_n 0, 1) := by decide +kernel
theorem dJ6_bitCount_0f7a4_49 : decode cJ6_bitCount_0f7a4 49 = .ok (.bipush 63, 2) := by decide +kernel
theorem dJ6_bitCount_0f7a4_51 : decode cJ6_bitCount_0f7a4 51 = .ok (.iand, 1) := by decide +kernel
theorem dJ6_bitCount_0f7a4_52 : decode cJ6_bitCount_0f7a4 52 = .ok (.ireturn, 1) := by decide +kernel
theorem dJ13_bitCount_95d88_0 : decode cJ13_bitCount_95d88 0 = .ok (.lload_n 0, 1) := by decide +kernel
theorem dJ13_bitCount_95d88_1 : decode cJ13_bitCount_95d88 1 = .ok (.lload_n 0, 1) := by decide +kernel
theorem dJ13_bitCount_95d88_2 : decode cJ13_bitCount_95d88 2 = .ok (.iconst 1, 1) := by decide +kernel
theorem dJ13_bitCount_95d88_3 : decode cJ13_bitCount_95d88 3 = .ok (.lushr, 1) := by decide +kernel
theorem dJ13_bitCount_95d88_4 : decode cJ13_bitCount_95d88 4 = .ok (.ldc2_w 314, 3) := by decide +kernel
theorem dJ13_bitCount_95d88_7 : decode cJ13_bitCount_95d88 7 = .ok (.land, 1) := by decide +kernel
theorem dJ13_bitCount_95d88_8 : decode cJ13_bitCount_95d88 8 = .ok (.lsub, 1) := by decide +kernel
theorem dJ13_bitCount_95d88_9 : decode cJ13_bitCount_95d88 9 = .ok (.lstore_n 0, 1) := by decide +kernel
theorem dJ13_bitCount_95d88_10 : decode cJ13_bitCount_95d88 10 = .ok (.lload_n 0, 1) := by decide +kernel
theorem dJ13_bitCount_95d88_11 : decode cJ13_bitCount_95d88 11 = .ok (.ldc2_w 316, 3) := by decide +kernel
theorem dJ13_bitCount_95d88_14 : decode cJ13_bitCount_95d88 14 = .ok (.land, 1) := by decide +kernel
theorem dJ13_bitCount_95d88_15 : decode cJ13_bitCount_95d88 15 = .ok (.lload_n 0, 1) := by decide +kernel
theorem dJ13_bitCount_95d88_16 : decode cJ13_bitCount_95d88 16 = .ok (.iconst 2, 1) := by decide +kernel
theorem dJ13_bitCount_95d88_17 : decode cJ13_bitCount_95d88 17 = .ok (.lushr, 1) := by decide +kernel
theorem dJ13_bitCount_95d88_18 : decode cJ13_bitCount_95d88 18 = .ok (.ldc2_w 316, 3) := by decide +kernel
theorem dJ13_bitCount_95d88_21 : decode cJ13_bitCount_95d88 21 = .ok (.land, 1) := by decide +kernel
theorem dJ13_bitCount_95d88_22 : decode cJ13_bitCount_95d88 22 = .ok (.ladd, 1) := by decide +kernel
theorem dJ13_bitCount_95d88_23 : decode cJ13_bitCount_95d88 23 = .ok (.lstore_n 0, 1) := by decide +kernel
theorem dJ13_bitCount_95d88_24 : decode cJ13_bitCount_95d88 24 = .ok (.lload_n 0, 1) := by decide +kernel
theorem dJ13_bitCount_95d88_25 : decode cJ13_bitCount_95d88 25 = .ok (.lload_n 0, 1) := by decide +kernel
theorem dJ13_bitCount_95d88_26 : decode cJ13_bitCount_95d88 26 = .ok (.iconst 4, 1) := by decide +kernel
theorem dJ13_bitCount_95d88_27 : decode cJ13_bitCount_95d88 27 = .ok (.lushr, 1) := by decide +kernel
theorem dJ13_bitCount_95d88_28 : decode cJ13_bitCount_95d88 28 = .ok (.ladd, 1) := by decide +kernel
theorem dJ13_bitCount_95d88_29 : decode cJ13_bitCount_95d88 29 = .ok (.ldc2_w 318, 3) := by decide +kernel
theorem dJ13_bitCount_95d88_32 : decode cJ13_bitCount_95d88 32 = .ok (.land, 1) := by decide +kernel
theorem dJ13_bitCount_95d88_33 : decode cJ13_bitCount_95d88 33 = .ok (.lstore_n 0, 1) := by decide +kernel
theorem dJ13_bitCount_95d88_34 : decode cJ13_bitCount_95d88 34 = .ok (.lload_n 0, 1) := by decide +kernel
theorem dJ13_bitCount_95d88_35 : decode cJ13_bitCount_95d88 35 = .ok (.lload_n 0, 1) := by decide +kernel
theorem dJ13_bitCount_95d88_36 : decode cJ13_bitCount_95d88 36 = .ok (.bipush 8, 2) := by decide +kernel
theorem dJ13_bitCount_95d88_38 : decode cJ13_bitCount_95d88 38 = .ok (.lushr, 1) := by decide +kernel
theorem dJ13_bitCount_95d88_39 : decode cJ13_bitCount_95d88 39 = .ok (.ladd, 1) := by decide +kernel
theorem dJ13_bitCount_95d88_40 : decode cJ13_bitCount_95d88 40 = .ok (.lstore_n 0, 1) := by decide +kernel
theorem dJ13_bitCount_95d88_41 : decode cJ13_bitCount_95d88 41 = .ok (.lload_n 0, 1) := by decide +kernel
theorem dJ13_bitCount_95d88_42 : decode cJ13_bitCount_95d88 42 = .ok (.lload_n 0, 1) := by decide +kernel
theorem dJ13_bitCount_95d88_43 : decode cJ13_bitCount_95d88 43 = .ok (.bipush 16, 2) := by decide +kernel
theorem dJ13_bitCount_95d88_45 : decode cJ13_bitCount_95d88 45 = .ok (.lushr, 1) := by decide +kernel
theorem dJ13_bitCount_95d88_46 : decode cJ13_bitCount_95d88 46 = .ok (.ladd, 1) := by decide +kernel
theorem dJ13_bitCount_95d88_47 : decode cJ13_bitCount_95d88 47 = .ok (.lstore_n 0, 1) := by decide +kernel
theorem dJ13_bitCount_95d88_48 : decode cJ13_bitCount_95d88 48 = .ok (.lload_n 0, 1) := by decide +kernel
theorem dJ13_bitCount_95d88_49 : decode cJ13_bitCount_95d88 49 = .ok (.lload_n 0, 1) := by decide +kernel
theorem dJ13_bitCount_95d88_50 : decode cJ13_bitCount_95d88 50 = .ok (.bipush 32, 2) := by decide +kernel
theorem dJ13_bitCount_95d88_52 : decode cJ13_bitCount_95d88 52 = .ok (.lushr, 1) := by decide +kernel
theorem dJ13_bitCount_95d88_53 : decode cJ13_bitCount_95d88 53 = .ok (.ladd, 1) := by decide +kernel
theorem dJ13_bitCount_95d88_54 : decode cJ13_bitCount_95d88 54 = .ok (.lstore_n 0, 1) := by decide +kernel
theorem dJ13_bitCount_95d88_55 : decode cJ13_bitCount_95d88 55 = .ok (.lload_n 0, 1) := by decide +kernel
theorem dJ13_bitCount_95d88_56 : decode cJ13_bitCount_95d88 56 = .ok (.l2i, 1) := by decide +kernel
theorem dJ13_bitCount_95d88_57 : decode cJ13_bitCount_95d88 57 = .ok (.bipush 127, 2) := by decide +kernel
theorem dJ13_bitCount_95d88_59 : decode cJ13_bitCount_95d88 59 = .ok (.iand, 1) := by decide +kernel
theorem dJ13_bitCount_95d88_60 : decode cJ13_bitCount_95d88 60 = .ok (.ireturn, 1) := by decide +kernel
theorem dJ9_max_7cf53_0 : decode cJ9_max_7cf53 0 = .ok (.iload_n 0, 1) := by decide +kernel
theorem dJ9_max_7cf53_1 : decode cJ9_max_7cf53 1 = .ok (.iload_n 1, 1) := by decide +kernel
theorem dJ9_max_7cf53_2 : decode cJ9_max_7cf53 2 = .ok (.if_icmp .lt 7, 3) := by decide +kernel
theorem dJ9_max_7cf53_5 : decode cJ9_max_7cf53 5 = .ok (.iload_n 0, 1) := by decide +kernel
theorem dJ9_max_7cf53_6 : decode cJ9_max_7cf53 6 = .ok (.goto 4, 3) := by decide +kernel
theorem dJ9_max_7cf53_9 : decode cJ9_max_7cf53 9 = .ok (.iload_n 1, 1) := by decide +kernel
theorem dJ9_max_7cf53_10 : decode cJ9_max_7cf53 10 = .ok (.ireturn, 1) := by decide +kernel
theorem dJ9_min_7cf53_0 : decode cJ9_min_7cf53 0 = .ok (.iload_n 0, 1) := by decide +kernel
theorem dJ9_min_7cf53_1 : decode cJ9_min_7cf53 1 = .ok (.iload_n 1, 1) := by decide +kernel
theorem dJ9_min_7cf53_2 : decode cJ9_min_7cf53 2 = .ok (.if_icmp .gt 7, 3) := by decide +kernel
theorem dJ9_min_7cf53_5 : decode cJ9_min_7cf53 5 = .ok (.iload_n 0, 1) := by decide +kernel
theorem dJ9_min_7cf53_6 : decode cJ9_min_7cf53 6 = .ok (.goto 4, 3) := by decide +kernel
theorem dJ9_min_7cf53_9 : decode cJ9_min_7cf53 9 = .ok (.iload_n 1, 1) := by decide +kernel
theorem dJ9_min_7cf53_10 : decode cJ9_min_7cf53 10 = .ok (.ireturn, 1) := by decide +kernel
theorem dL_name_0 : decode cL_name 0 = .ok (.aload_n 3, 1) := by decide +kernel
theorem dL_name_1 : decode cL_name 1 = .ok (.iconst 0, 1) := by decide +kernel
theorem dL_name_2 : decode cL_name 2 = .ok (.aload_n 0, 1) := by decide +kernel
theorem dL_name_3 : decode cL_name 3 = .ok (.iload_n 1, 1) := by decide +kernel
theorem dL_name_4 : decode cL_name 4 = .ok (.iload_n 2, 1) := by decide +kernel
theorem dL_name_5 : decode cL_name 5 = .ok (.invokevirtual 7, 3) := by decide +kernel
theorem dL_name_8 : decode cL_name 8 = .ok (.i2l, 1) := by decide +kernel
theorem dL_name_9 : decode cL_name 9 = .ok (.lastore, 1) := by decide +kernel
theorem dL_name_10 : decode cL_name 10 = .ok (.goto 7, 3) := by decide +kernel
theorem dL_name_13 : decode cL_name 13 = .ok (.astore 4, 2) := by decide +kernel
theorem dL_name_15 : decode cL_name 15 = .ok (.iconst 1, 1) := by decide +kernel
theorem dL_name_16 : decode cL_name 16 = .ok (.ireturn, 1) := by decide +kernel
theorem dL_name_17 : decode cL_name 17 = .ok (.iconst 0, 1) := by decide +kernel
theorem dL_name_18 : decode cL_name 18 = .ok (.ireturn, 1) := by decide +kernel
theorem dL_said_0 : decode cL_said 0 = .ok (.aload_n 2, 1) := by decide +kernel
theorem dL_said_1 : decode cL_said 1 = .ok (.iconst 0, 1) := by decide +kernel
theorem dL_said_2 : decode cL_said 2 = .ok (.aload_n 0, 1) := by decide +kernel
theorem dL_said_3 : decode cL_said 3 = .ok (.iload_n 1, 1) := by decide +kernel
theorem dL_said_4 : decode cL_said 4 = .ok (.invokevirtual 15, 3) := by decide +kernel
theorem dL_said_7 : decode cL_said 7 = .ok (.i2l, 1) := by decide +kernel
theorem dL_said_8 : decode cL_said 8 = .ok (.lastore, 1) := by decide +kernel
theorem dL_said_9 : decode cL_said 9 = .ok (.goto 6, 3) := by decide +kernel
theorem dL_said_12 : decode cL_said 12 = .ok (.astore_n 3, 1) := by decide +kernel
theorem dL_said_13 : decode cL_said 13 = .ok (.iconst 1, 1) := by decide +kernel
theorem dL_said_14 : decode cL_said 14 = .ok (.ireturn, 1) := by decide +kernel
theorem dL_said_15 : decode cL_said 15 = .ok (.iconst 0, 1) := by decide +kernel
theorem dL_said_16 : decode cL_said 16 = .ok (.ireturn, 1) := by decide +kernel
theorem dL_trace_0 : decode cL_trace 0 = .ok (.aload_n 3, 1) := by decide +kernel
theorem dL_trace_1 : decode cL_trace 1 = .ok (.iconst 0, 1) := by decide +kernel
theorem dL_trace_2 : decode cL_trace 2 = .ok (.aload_n 0, 1) := by decide +kernel
theorem dL_trace_3 : decode cL_trace 3 = .ok (.iload_n 1, 1) := by decide +kernel
theorem dL_trace_4 : decode cL_trace 4 = .ok (.iload_n 2, 1) := by decide +kernel
theorem dL_trace_5 : decode cL_trace 5 = .ok (.invokevirtual 19, 3) := by decide +kernel
theorem dL_trace_8 : decode cL_trace 8 = .ok (.i2l, 1) := by decide +kernel
theorem dL_trace_9 : decode cL_trace 9 = .ok (.lastore, 1) := by decide +kernel
theorem dL_trace_10 : decode cL_trace 10 = .ok (.goto 7, 3) := by decide +kernel
theorem dL_trace_13 : decode cL_trace 13 = .ok (.astore 4, 2) := by decide +kernel
theorem dL_trace_15 : decode cL_trace 15 = .ok (.iconst 1, 1) := by decide +kernel
theorem dL_trace_16 : decode cL_trace 16 = .ok (.ireturn, 1) := by decide +kernel
theorem dL_trace_17 : decode cL_trace 17 = .ok (.iconst 0, 1) := by decide +kernel
theorem dL_trace_18 : decode cL_trace 18 = .ok (.ireturn, 1) := by decide +kernel
theorem dL_law_0 : decode cL_law 0 = .ok (.new 8, 3) := by decide +kernel
theorem dL_law_3 : decode cL_law 3 = .ok (.dup, 1) := by decide +kernel
theorem dL_law_4 : decode cL_law 4 = .ok (.invokespecial 22, 3) := by decide +kernel
theorem dL_law_7 : decode cL_law 7 = .ok (.astore_n 1, 1) := by decide +kernel
theorem dL_law_8 : decode cL_law 8 = .ok (.new 23, 3) := by decide +kernel
theorem dL_law_11 : decode cL_law 11 = .ok (.dup, 1) := by decide +kernel
theorem dL_law_12 : decode cL_law 12 = .ok (.invokespecial 25, 3) := by decide +kernel
theorem dL_law_15 : decode cL_law 15 = .ok (.astore_n 2, 1) := by decide +kernel
theorem dL_law_16 : decode cL_law 16 = .ok (.iconst 1, 1) := by decide +kernel
theorem dL_law_17 : decode cL_law 17 = .ok (.newarray .long, 2) := by decide +kernel
theorem dL_law_19 : decode cL_law 19 = .ok (.astore_n 3, 1) := by decide +kernel
theorem dL_law_20 : decode cL_law 20 = .ok (.iconst 0, 1) := by decide +kernel
theorem dL_law_21 : decode cL_law 21 = .ok (.istore 4, 2) := by decide +kernel
theorem dL_law_23 : decode cL_law 23 = .ok (.iload 4, 2) := by decide +kernel
theorem dL_law_25 : decode cL_law 25 = .ok (.aload_n 0, 1) := by decide +kernel
theorem dL_law_26 : decode cL_law 26 = .ok (.arraylength, 1) := by decide +kernel
theorem dL_law_27 : decode cL_law 27 = .ok (.bipush 6, 2) := by decide +kernel
theorem dL_law_29 : decode cL_law 29 = .ok (.isub, 1) := by decide +kernel
theorem dL_law_30 : decode cL_law 30 = .ok (.if_icmp .gt 1030, 3) := by decide +kernel
theorem dL_law_33 : decode cL_law 33 = .ok (.aload_n 0, 1) := by decide +kernel
theorem dL_law_34 : decode cL_law 34 = .ok (.iload 4, 2) := by decide +kernel
theorem dL_law_36 : decode cL_law 36 = .ok (.iaload, 1) := by decide +kernel
theorem dL_law_37 : decode cL_law 37 = .ok (.bipush 31, 2) := by decide +kernel
theorem dL_law_39 : decode cL_law 39 = .ok (.iand, 1) := by decide +kernel
theorem dL_law_40 : decode cL_law 40 = .ok (.tableswitch 1014 0 24 #[116, 189, 214, 227, 240, 277, 345, 382, 455, 480, 536, 604, 629, 654, 727, 788, 801, 826, 887, 900, 913, 938, 963, 976, 1001], 116) := by decide +kernel
theorem dL_law_156 : decode cL_law 156 = .ok (.aload_n 1, 1) := by decide +kernel
theorem dL_law_157 : decode cL_law 157 = .ok (.aload_n 0, 1) := by decide +kernel
theorem dL_law_158 : decode cL_law 158 = .ok (.iload 4, 2) := by decide +kernel
theorem dL_law_160 : decode cL_law 160 = .ok (.iconst 1, 1) := by decide +kernel
theorem dL_law_161 : decode cL_law 161 = .ok (.iadd, 1) := by decide +kernel
theorem dL_law_162 : decode cL_law 162 = .ok (.iaload, 1) := by decide +kernel
theorem dL_law_163 : decode cL_law 163 = .ok (.aload_n 0, 1) := by decide +kernel
theorem dL_law_164 : decode cL_law 164 = .ok (.iload 4, 2) := by decide +kernel
theorem dL_law_166 : decode cL_law 166 = .ok (.iconst 2, 1) := by decide +kernel
theorem dL_law_167 : decode cL_law 167 = .ok (.iadd, 1) := by decide +kernel
theorem dL_law_168 : decode cL_law 168 = .ok (.iaload, 1) := by decide +kernel
theorem dL_law_169 : decode cL_law 169 = .ok (.aload_n 0, 1) := by decide +kernel
theorem dL_law_170 : decode cL_law 170 = .ok (.iload 4, 2) := by decide +kernel
theorem dL_law_172 : decode cL_law 172 = .ok (.iconst 3, 1) := by decide +kernel
theorem dL_law_173 : decode cL_law 173 = .ok (.iadd, 1) := by decide +kernel
theorem dL_law_174 : decode cL_law 174 = .ok (.iaload, 1) := by decide +kernel
theorem dL_law_175 : decode cL_law 175 = .ok (.aload_n 0, 1) := by decide +kernel
theorem dL_law_176 : decode cL_law 176 = .ok (.iload 4, 2) := by decide +kernel
theorem dL_law_178 : decode cL_law 178 = .ok (.iconst 4, 1) := by decide +kernel
theorem dL_law_179 : decode cL_law 179 = .ok (.iadd, 1) := by decide +kernel
theorem dL_law_180 : decode cL_law 180 = .ok (.iaload, 1) := by decide +kernel
theorem dL_law_181 : decode cL_law 181 = .ok (.aload_n 0, 1) := by decide +kernel
theorem dL_law_182 : decode cL_law 182 = .ok (.iload 4, 2) := by decide +kernel
theorem dL_law_184 : decode cL_law 184 = .ok (.iconst 5, 1) := by decide +kernel
theorem dL_law_185 : decode cL_law 185 = .ok (.iadd, 1) := by decide +kernel
theorem dL_law_186 : decode cL_law 186 = .ok (.iaload, 1) := by decide +kernel
theorem dL_law_187 : decode cL_law 187 = .ok (.invokevirtual 26, 3) := by decide +kernel
theorem dL_law_190 : decode cL_law 190 = .ok (.aload_n 2, 1) := by decide +kernel
theorem dL_law_191 : decode cL_law 191 = .ok (.aload_n 0, 1) := by decide +kernel
theorem dL_law_192 : decode cL_law 192 = .ok (.iload 4, 2) := by decide +kernel
theorem dL_law_194 : decode cL_law 194 = .ok (.iconst 1, 1) := by decide +kernel
theorem dL_law_195 : decode cL_law 195 = .ok (.iadd, 1) := by decide +kernel
theorem dL_law_196 : decode cL_law 196 = .ok (.iaload, 1) := by decide +kernel
theorem dL_law_197 : decode cL_law 197 = .ok (.aload_n 0, 1) := by decide +kernel
theorem dL_law_198 : decode cL_law 198 = .ok (.iload 4, 2) := by decide +kernel
theorem dL_law_200 : decode cL_law 200 = .ok (.iconst 2, 1) := by decide +kernel
theorem dL_law_201 : decode cL_law 201 = .ok (.iadd, 1) := by decide +kernel
theorem dL_law_202 : decode cL_law 202 = .ok (.iaload, 1) := by decide +kernel
theorem dL_law_203 : decode cL_law 203 = .ok (.aload_n 0, 1) := by decide +kernel
theorem dL_law_204 : decode cL_law 204 = .ok (.iload 4, 2) := by decide +kernel
theorem dL_law_206 : decode cL_law 206 = .ok (.iconst 3, 1) := by decide +kernel
theorem dL_law_207 : decode cL_law 207 = .ok (.iadd, 1) := by decide +kernel
theorem dL_law_208 : decode cL_law 208 = .ok (.iaload, 1) := by decide +kernel
theorem dL_law_209 : decode cL_law 209 = .ok (.aload_n 0, 1) := by decide +kernel
theorem dL_law_210 : decode cL_law 210 = .ok (.iload 4, 2) := by decide +kernel
theorem dL_law_212 : decode cL_law 212 = .ok (.iconst 4, 1) := by decide +kernel
theorem dL_law_213 : decode cL_law 213 = .ok (.iadd, 1) := by decide +kernel
theorem dL_law_214 : decode cL_law 214 = .ok (.iaload, 1) := by decide +kernel
theorem dL_law_215 : decode cL_law 215 = .ok (.aload_n 0, 1) := by decide +kernel
theorem dL_law_216 : decode cL_law 216 = .ok (.iload 4, 2) := by decide +kernel
theorem dL_law_218 : decode cL_law 218 = .ok (.iconst 5, 1) := by decide +kernel
theorem dL_law_219 : decode cL_law 219 = .ok (.iadd, 1) := by decide +kernel
theorem dL_law_220 : decode cL_law 220 = .ok (.iaload, 1) := by decide +kernel
theorem dL_law_221 : decode cL_law 221 = .ok (.invokevirtual 30, 3) := by decide +kernel
theorem dL_law_224 : decode cL_law 224 = .ok (.if_icmp .eq 830, 3) := by decide +kernel
theorem dL_law_227 : decode cL_law 227 = .ok (.iconst 0, 1) := by decide +kernel
theorem dL_law_228 : decode cL_law 228 = .ok (.ireturn, 1) := by decide +kernel
theorem dL_law_229 : decode cL_law 229 = .ok (.aload_n 1, 1) := by decide +kernel
theorem dL_law_230 : decode cL_law 230 = .ok (.aload_n 0, 1) := by decide +kernel
theorem dL_law_231 : decode cL_law 231 = .ok (.iload 4, 2) := by decide +kernel
theorem dL_law_233 : decode cL_law 233 = .ok (.iconst 1, 1) := by decide +kernel
theorem dL_law_234 : decode cL_law 234 = .ok (.iadd, 1) := by decide +kernel
theorem dL_law_235 : decode cL_law 235 = .ok (.iaload, 1) := by decide +kernel
theorem dL_law_236 : decode cL_law 236 = .ok (.invokevirtual 31, 3) := by decide +kernel
theorem dL_law_239 : decode cL_law 239 = .ok (.aload_n 2, 1) := by decide +kernel
theorem dL_law_240 : decode cL_law 240 = .ok (.aload_n 0, 1) := by decide +kernel
theorem dL_law_241 : decode cL_law 241 = .ok (.iload 4, 2) := by decide +kernel
theorem dL_law_243 : decode cL_law 243 = .ok (.iconst 1, 1) := by decide +kernel
theorem dL_law_244 : decode cL_law 244 = .ok (.iadd, 1) := by decide +kernel
theorem dL_law_245 : decode cL_law 245 = .ok (.iaload, 1) := by decide +kernel
theorem dL_law_246 : decode cL_law 246 = .ok (.invokevirtual 34, 3) := by decide +kernel
theorem dL_law_249 : decode cL_law 249 = .ok (.if_icmp .eq 805, 3) := by decide +kernel
theorem dL_law_252 : decode cL_law 252 = .ok (.iconst 0, 1) := by decide +kernel
theorem dL_law_253 : decode cL_law 253 = .ok (.ireturn, 1) := by decide +kernel
theorem dL_law_254 : decode cL_law 254 = .ok (.aload_n 1, 1) := by decide +kernel
theorem dL_law_255 : decode cL_law 255 = .ok (.invokevirtual 35, 3) := by decide +kernel
theorem dL_law_258 : decode cL_law 258 = .ok (.aload_n 2, 1) := by decide +kernel
theorem dL_law_259 : decode cL_law 259 = .ok (.invokevirtual 39, 3) := by decide +kernel
theorem dL_law_262 : decode cL_law 262 = .ok (.if_icmp .eq 792, 3) := by decide +kernel
theorem dL_law_265 : decode cL_law 265 = .ok (.iconst 0, 1) := by decide +kernel
theorem dL_law_266 : decode cL_law 266 = .ok (.ireturn, 1) := by decide +kernel
theorem dL_law_267 : decode cL_law 267 = .ok (.aload_n 1, 1) := by decide +kernel
theorem dL_law_268 : decode cL_law 268 = .ok (.invokevirtual 40, 3) := by decide +kernel
theorem dL_law_271 : decode cL_law 271 = .ok (.aload_n 2, 1) := by decide +kernel
theorem dL_law_272 : decode cL_law 272 = .ok (.invokevirtual 43, 3) := by decide +kernel
theorem dL_law_275 : decode cL_law 275 = .ok (.if_icmp .eq 779, 3) := by decide +kernel
theorem dL_law_278 : decode cL_law 278 = .ok (.iconst 0, 1) := by decide +kernel
theorem dL_law_279 : decode cL_law 279 = .ok (.ireturn, 1) := by decide +kernel
theorem dL_law_280 : decode cL_law 280 = .ok (.aload_n 1, 1) := by decide +kernel
theorem dL_law_281 : decode cL_law 281 = .ok (.aload_n 0, 1) := by decide +kernel
theorem dL_law_282 : decode cL_law 282 = .ok (.iload 4, 2) := by decide +kernel
theorem dL_law_284 : decode cL_law 284 = .ok (.iconst 1, 1) := by decide +kernel
theorem dL_law_285 : decode cL_law 285 = .ok (.iadd, 1) := by decide +kernel
theorem dL_law_286 : decode cL_law 286 = .ok (.iaload, 1) := by decide +kernel
theorem dL_law_287 : decode cL_law 287 = .ok (.aload_n 0, 1) := by decide +kernel
theorem dL_law_288 : decode cL_law 288 = .ok (.iload 4, 2) := by decide +kernel
theorem dL_law_290 : decode cL_law 290 = .ok (.iconst 2, 1) := by decide +kernel
theorem dL_law_291 : decode cL_law 291 = .ok (.iadd, 1) := by decide +kernel
theorem dL_law_292 : decode cL_law 292 = .ok (.iaload, 1) := by decide +kernel
theorem dL_law_293 : decode cL_law 293 = .ok (.invokevirtual 44, 3) := by decide +kernel
theorem dL_law_296 : decode cL_law 296 = .ok (.aload_n 2, 1) := by decide +kernel
theorem dL_law_297 : decode cL_law 297 = .ok (.aload_n 0, 1) := by decide +kernel
theorem dL_law_298 : decode cL_law 298 = .ok (.iload 4, 2) := by decide +kernel
theorem dL_law_300 : decode cL_law 300 = .ok (.iconst 1, 1) := by decide +kernel
theorem dL_law_301 : decode cL_law 301 = .ok (.iadd, 1) := by decide +kernel
theorem dL_law_302 : decode cL_law 302 = .ok (.iaload, 1) := by decide +kernel
theorem dL_law_303 : decode cL_law 303 = .ok (.aload_n 0, 1) := by decide +kernel
theorem dL_law_304 : decode cL_law 304 = .ok (.iload 4, 2) := by decide +kernel
theorem dL_law_306 : decode cL_law 306 = .ok (.iconst 2, 1) := by decide +kernel
theorem dL_law_307 : decode cL_law 307 = .ok (.iadd, 1) := by decide +kernel
theorem dL_law_308 : decode cL_law 308 = .ok (.iaload, 1) := by decide +kernel
theorem dL_law_309 : decode cL_law 309 = .ok (.invokevirtual 47, 3) := by decide +kernel
theorem dL_law_312 : decode cL_law 312 = .ok (.if_icmp .eq 742, 3) := by decide +kernel
theorem dL_law_315 : decode cL_law 315 = .ok (.iconst 0, 1) := by decide +kernel
theorem dL_law_316 : decode cL_law 316 = .ok (.ireturn, 1) := by decide +kernel
theorem dL_law_317 : decode cL_law 317 = .ok (.aload_n 1, 1) := by decide +kernel
theorem dL_law_318 : decode cL_law 318 = .ok (.aload_n 0, 1) := by decide +kernel
theorem dL_law_319 : decode cL_law 319 = .ok (.iload 4, 2) := by decide +kernel
theorem dL_law_321 : decode cL_law 321 = .ok (.iconst 1, 1) := by decide +kernel
theorem dL_law_322 : decode cL_law 322 = .ok (.iadd, 1) := by decide +kernel
theorem dL_law_323 : decode cL_law 323 = .ok (.iaload, 1) := by decide +kernel
theorem dL_law_324 : decode cL_law 324 = .ok (.aload_n 0, 1) := by decide +kernel
theorem dL_law_325 : decode cL_law 325 = .ok (.iload 4, 2) := by decide +kernel
theorem dL_law_327 : decode cL_law 327 = .ok (.iconst 2, 1) := by decide +kernel
theorem dL_law_328 : decode cL_law 328 = .ok (.iadd, 1) := by decide +kernel
theorem dL_law_329 : decode cL_law 329 = .ok (.iaload, 1) := by decide +kernel
theorem dL_law_330 : decode cL_law 330 = .ok (.aload_n 3, 1) := by decide +kernel
theorem dL_law_331 : decode cL_law 331 = .ok (.invokestatic 48, 3) := by decide +kernel
theorem dL_law_334 : decode cL_law 334 = .ok (.istore 5, 2) := by decide +kernel
theorem dL_law_336 : decode cL_law 336 = .ok (.aload_n 2, 1) := by decide +kernel
theorem dL_law_337 : decode cL_law 337 = .ok (.aload_n 0, 1) := by decide +kernel
theorem dL_law_338 : decode cL_law 338 = .ok (.iload 4, 2) := by decide +kernel
theorem dL_law_340 : decode cL_law 340 = .ok (.iconst 1, 1) := by decide +kernel
theorem dL_law_341 : decode cL_law 341 = .ok (.iadd, 1) := by decide +kernel
theorem dL_law_342 : decode cL_law 342 = .ok (.iaload, 1) := by decide +kernel
theorem dL_law_343 : decode cL_law 343 = .ok (.aload_n 0, 1) := by decide +kernel
theorem dL_law_344 : decode cL_law 344 = .ok (.iload 4, 2) := by decide +kernel
theorem dL_law_346 : decode cL_law 346 = .ok (.iconst 2, 1) := by decide +kernel
theorem dL_law_347 : decode cL_law 347 = .ok (.iadd, 1) := by decide +kernel
theorem dL_law_348 : decode cL_law 348 = .ok (.iaload, 1) := by decide +kernel
theorem dL_law_349 : decode cL_law 349 = .ok (.invokevirtual 53, 3) := by decide +kernel
theorem dL_law_352 : decode cL_law 352 = .ok (.istore 6, 2) := by decide +kernel
theorem dL_law_354 : decode cL_law 354 = .ok (.aload_n 2, 1) := by decide +kernel
theorem dL_law_355 : decode cL_law 355 = .ok (.invokevirtual 54, 3) := by decide +kernel
theorem dL_law_358 : decode cL_law 358 = .ok (.iload 5, 2) := by decide +kernel
theorem dL_law_360 : decode cL_law 360 = .ok (.if_icmp .eq 5, 3) := by decide +kernel
theorem dL_law_363 : decode cL_law 363 = .ok (.iconst 0, 1) := by decide +kernel
theorem dL_law_364 : decode cL_law 364 = .ok (.ireturn, 1) := by decide +kernel
theorem dL_law_365 : decode cL_law 365 = .ok (.iload 5, 2) := by decide +kernel
theorem dL_law_367 : decode cL_law 367 = .ok (.ifCond .ne 15, 3) := by decide +kernel
theorem dL_law_370 : decode cL_law 370 = .ok (.aload_n 3, 1) := by decide +kernel
theorem dL_law_371 : decode cL_law 371 = .ok (.iconst 0, 1) := by decide +kernel
theorem dL_law_372 : decode cL_law 372 = .ok (.laload, 1) := by decide +kernel
theorem dL_law_373 : decode cL_law 373 = .ok (.iload 6, 2) := by decide +kernel
theorem dL_law_375 : decode cL_law 375 = .ok (.i2l, 1) := by decide +kernel
theorem dL_law_376 : decode cL_law 376 = .ok (.lcmp, 1) := by decide +kernel
theorem dL_law_377 : decode cL_law 377 = .ok (.ifCond .eq 5, 3) := by decide +kernel
theorem dL_law_380 : decode cL_law 380 = .ok (.iconst 0, 1) := by decide +kernel
theorem dL_law_381 : decode cL_law 381 = .ok (.ireturn, 1) := by decide +kernel
theorem dL_law_382 : decode cL_law 382 = .ok (.goto 672, 3) := by decide +kernel
theorem dL_law_385 : decode cL_law 385 = .ok (.aload_n 1, 1) := by decide +kernel
theorem dL_law_386 : decode cL_law 386 = .ok (.aload_n 0, 1) := by decide +kernel
theorem dL_law_387 : decode cL_law 387 = .ok (.iload 4, 2) := by decide +kernel
theorem dL_law_389 : decode cL_law 389 = .ok (.iconst 1, 1) := by decide +kernel
theorem dL_law_390 : decode cL_law 390 = .ok (.iadd, 1) := by decide +kernel
theorem dL_law_391 : decode cL_law 391 = .ok (.iaload, 1) := by decide +kernel
theorem dL_law_392 : decode cL_law 392 = .ok (.aload_n 0, 1) := by decide +kernel
theorem dL_law_393 : decode cL_law 393 = .ok (.iload 4, 2) := by decide +kernel
theorem dL_law_395 : decode cL_law 395 = .ok (.iconst 2, 1) := by decide +kernel
theorem dL_law_396 : decode cL_law 396 = .ok (.iadd, 1) := by decide +kernel
theorem dL_law_397 : decode cL_law 397 = .ok (.iaload, 1) := by decide +kernel
theorem dL_law_398 : decode cL_law 398 = .ok (.invokevirtual 57, 3) := by decide +kernel
theorem dL_law_401 : decode cL_law 401 = .ok (.aload_n 2, 1) := by decide +kernel
theorem dL_law_402 : decode cL_law 402 = .ok (.aload_n 0, 1) := by decide +kernel
theorem dL_law_403 : decode cL_law 403 = .ok (.iload 4, 2) := by decide +kernel
theorem dL_law_405 : decode cL_law 405 = .ok (.iconst 1, 1) := by decide +kernel
theorem dL_law_406 : decode cL_law 406 = .ok (.iadd, 1) := by decide +kernel
theorem dL_law_407 : decode cL_law 407 = .ok (.iaload, 1) := by decide +kernel
theorem dL_law_408 : decode cL_law 408 = .ok (.aload_n 0, 1) := by decide +kernel
theorem dL_law_409 : decode cL_law 409 = .ok (.iload 4, 2) := by decide +kernel
theorem dL_law_411 : decode cL_law 411 = .ok (.iconst 2, 1) := by decide +kernel
theorem dL_law_412 : decode cL_law 412 = .ok (.iadd, 1) := by decide +kernel
theorem dL_law_413 : decode cL_law 413 = .ok (.iaload, 1) := by decide +kernel
theorem dL_law_414 : decode cL_law 414 = .ok (.invokevirtual 60, 3) := by decide +kernel
theorem dL_law_417 : decode cL_law 417 = .ok (.if_icmp .eq 637, 3) := by decide +kernel
theorem dL_law_420 : decode cL_law 420 = .ok (.iconst 0, 1) := by decide +kernel
theorem dL_law_421 : decode cL_law 421 = .ok (.ireturn, 1) := by decide +kernel
theorem dL_law_422 : decode cL_law 422 = .ok (.aload_n 1, 1) := by decide +kernel
theorem dL_law_423 : decode cL_law 423 = .ok (.aload_n 0, 1) := by decide +kernel
theorem dL_law_424 : decode cL_law 424 = .ok (.iload 4, 2) := by decide +kernel
theorem dL_law_426 : decode cL_law 426 = .ok (.iconst 1, 1) := by decide +kernel
theorem dL_law_427 : decode cL_law 427 = .ok (.iadd, 1) := by decide +kernel
theorem dL_law_428 : decode cL_law 428 = .ok (.iaload, 1) := by decide +kernel
theorem dL_law_429 : decode cL_law 429 = .ok (.aload_n 0, 1) := by decide +kernel
theorem dL_law_430 : decode cL_law 430 = .ok (.iload 4, 2) := by decide +kernel
theorem dL_law_432 : decode cL_law 432 = .ok (.iconst 2, 1) := by decide +kernel
theorem dL_law_433 : decode cL_law 433 = .ok (.iadd, 1) := by decide +kernel
theorem dL_law_434 : decode cL_law 434 = .ok (.iaload, 1) := by decide +kernel
theorem dL_law_435 : decode cL_law 435 = .ok (.aload_n 0, 1) := by decide +kernel
theorem dL_law_436 : decode cL_law 436 = .ok (.iload 4, 2) := by decide +kernel
theorem dL_law_438 : decode cL_law 438 = .ok (.iconst 3, 1) := by decide +kernel
theorem dL_law_439 : decode cL_law 439 = .ok (.iadd, 1) := by decide +kernel
theorem dL_law_440 : decode cL_law 440 = .ok (.iaload, 1) := by decide +kernel
theorem dL_law_441 : decode cL_law 441 = .ok (.aload_n 0, 1) := by decide +kernel
theorem dL_law_442 : decode cL_law 442 = .ok (.iload 4, 2) := by decide +kernel
theorem dL_law_444 : decode cL_law 444 = .ok (.iconst 4, 1) := by decide +kernel
theorem dL_law_445 : decode cL_law 445 = .ok (.iadd, 1) := by decide +kernel
theorem dL_law_446 : decode cL_law 446 = .ok (.iaload, 1) := by decide +kernel
theorem dL_law_447 : decode cL_law 447 = .ok (.aload_n 0, 1) := by decide +kernel
theorem dL_law_448 : decode cL_law 448 = .ok (.iload 4, 2) := by decide +kernel
theorem dL_law_450 : decode cL_law 450 = .ok (.iconst 5, 1) := by decide +kernel
theorem dL_law_451 : decode cL_law 451 = .ok (.iadd, 1) := by decide +kernel
theorem dL_law_452 : decode cL_law 452 = .ok (.iaload, 1) := by decide +kernel
theorem dL_law_453 : decode cL_law 453 = .ok (.invokevirtual 61, 3) := by decide +kernel
theorem dL_law_456 : decode cL_law 456 = .ok (.aload_n 2, 1) := by decide +kernel
theorem dL_law_457 : decode cL_law 457 = .ok (.aload_n 0, 1) := by decide +kernel
theorem dL_law_458 : decode cL_law 458 = .ok (.iload 4, 2) := by decide +kernel
theorem dL_law_460 : decode cL_law 460 = .ok (.iconst 1, 1) := by decide +kernel
theorem dL_law_461 : decode cL_law 461 = .ok (.iadd, 1) := by decide +kernel
theorem dL_law_462 : decode cL_law 462 = .ok (.iaload, 1) := by decide +kernel
theorem dL_law_463 : decode cL_law 463 = .ok (.aload_n 0, 1) := by decide +kernel
theorem dL_law_464 : decode cL_law 464 = .ok (.iload 4, 2) := by decide +kernel
theorem dL_law_466 : decode cL_law 466 = .ok (.iconst 2, 1) := by decide +kernel
theorem dL_law_467 : decode cL_law 467 = .ok (.iadd, 1) := by decide +kernel
theorem dL_law_468 : decode cL_law 468 = .ok (.iaload, 1) := by decide +kernel
theorem dL_law_469 : decode cL_law 469 = .ok (.aload_n 0, 1) := by decide +kernel
theorem dL_law_470 : decode cL_law 470 = .ok (.iload 4, 2) := by decide +kernel
theorem dL_law_472 : decode cL_law 472 = .ok (.iconst 3, 1) := by decide +kernel
theorem dL_law_473 : decode cL_law 473 = .ok (.iadd, 1) := by decide +kernel
theorem dL_law_474 : decode cL_law 474 = .ok (.iaload, 1) := by decide +kernel
theorem dL_law_475 : decode cL_law 475 = .ok (.aload_n 0, 1) := by decide +kernel
theorem dL_law_476 : decode cL_law 476 = .ok (.iload 4, 2) := by decide +kernel
theorem dL_law_478 : decode cL_law 478 = .ok (.iconst 4, 1) := by decide +kernel
theorem dL_law_479 : decode cL_law 479 = .ok (.iadd, 1) := by decide +kernel
theorem dL_law_480 : decode cL_law 480 = .ok (.iaload, 1) := by decide +kernel
theorem dL_law_481 : decode cL_law 481 = .ok (.aload_n 0, 1) := by decide +kernel
theorem dL_law_482 : decode cL_law 482 = .ok (.iload 4, 2) := by decide +kernel
theorem dL_law_484 : decode cL_law 484 = .ok (.iconst 5, 1) := by decide +kernel
theorem dL_law_485 : decode cL_law 485 = .ok (.iadd, 1) := by decide +kernel
theorem dL_law_486 : decode cL_law 486 = .ok (.iaload, 1) := by decide +kernel
theorem dL_law_487 : decode cL_law 487 = .ok (.invokevirtual 64, 3) := by decide +kernel
theorem dL_law_490 : decode cL_law 490 = .ok (.if_icmp .eq 564, 3) := by decide +kernel
theorem dL_law_493 : decode cL_law 493 = .ok (.iconst 0, 1) := by decide +kernel
theorem dL_law_494 : decode cL_law 494 = .ok (.ireturn, 1) := by decide +kernel
theorem dL_law_495 : decode cL_law 495 = .ok (.aload_n 1, 1) := by decide +kernel
theorem dL_law_496 : decode cL_law 496 = .ok (.aload_n 0, 1) := by decide +kernel
theorem dL_law_497 : decode cL_law 497 = .ok (.iload 4, 2) := by decide +kernel
theorem dL_law_499 : decode cL_law 499 = .ok (.iconst 1, 1) := by decide +kernel
theorem dL_law_500 : decode cL_law 500 = .ok (.iadd, 1) := by decide +kernel
theorem dL_law_501 : decode cL_law 501 = .ok (.iaload, 1) := by decide +kernel
theorem dL_law_502 : decode cL_law 502 = .ok (.invokevirtual 65, 3) := by decide +kernel
theorem dL_law_505 : decode cL_law 505 = .ok (.aload_n 2, 1) := by decide +kernel
theorem dL_law_506 : decode cL_law 506 = .ok (.aload_n 0, 1) := by decide +kernel
theorem dL_law_507 : decode cL_law 507 = .ok (.iload 4, 2) := by decide +kernel
theorem dL_law_509 : decode cL_law 509 = .ok (.iconst 1, 1) := by decide +kernel
theorem dL_law_510 : decode cL_law 510 = .ok (.iadd, 1) := by decide +kernel
theorem dL_law_511 : decode cL_law 511 = .ok (.iaload, 1) := by decide +kernel
theorem dL_law_512 : decode cL_law 512 = .ok (.invokevirtual 68, 3) := by decide +kernel
theorem dL_law_515 : decode cL_law 515 = .ok (.if_icmp .eq 539, 3) := by decide +kernel
theorem dL_law_518 : decode cL_law 518 = .ok (.iconst 0, 1) := by decide +kernel
theorem dL_law_519 : decode cL_law 519 = .ok (.ireturn, 1) := by decide +kernel
theorem dL_law_520 : decode cL_law 520 = .ok (.aload_n 1, 1) := by decide +kernel
theorem dL_law_521 : decode cL_law 521 = .ok (.aload_n 0, 1) := by decide +kernel
theorem dL_law_522 : decode cL_law 522 = .ok (.iload 4, 2) := by decide +kernel
theorem dL_law_524 : decode cL_law 524 = .ok (.iconst 1, 1) := by decide +kernel
theorem dL_law_525 : decode cL_law 525 = .ok (.iadd, 1) := by decide +kernel
theorem dL_law_526 : decode cL_law 526 = .ok (.iaload, 1) := by decide +kernel
theorem dL_law_527 : decode cL_law 527 = .ok (.aload_n 3, 1) := by decide +kernel
theorem dL_law_528 : decode cL_law 528 = .ok (.invokestatic 69, 3) := by decide +kernel
theorem dL_law_531 : decode cL_law 531 = .ok (.istore 5, 2) := by decide +kernel
theorem dL_law_533 : decode cL_law 533 = .ok (.aload_n 2, 1) := by decide +kernel
theorem dL_law_534 : decode cL_law 534 = .ok (.aload_n 0, 1) := by decide +kernel
theorem dL_law_535 : decode cL_law 535 = .ok (.iload 4, 2) := by decide +kernel
theorem dL_law_537 : decode cL_law 537 = .ok (.iconst 1, 1) := by decide +kernel
theorem dL_law_538 : decode cL_law 538 = .ok (.iadd, 1) := by decide +kernel
theorem dL_law_539 : decode cL_law 539 = .ok (.iaload, 1) := by decide +kernel
theorem dL_law_540 : decode cL_law 540 = .ok (.invokevirtual 72, 3) := by decide +kernel
theorem dL_law_543 : decode cL_law 543 = .ok (.istore 6, 2) := by decide +kernel
theorem dL_law_545 : decode cL_law 545 = .ok (.aload_n 2, 1) := by decide +kernel
theorem dL_law_546 : decode cL_law 546 = .ok (.invokevirtual 54, 3) := by decide +kernel
theorem dL_law_549 : decode cL_law 549 = .ok (.iload 5, 2) := by decide +kernel
theorem dL_law_551 : decode cL_law 551 = .ok (.if_icmp .eq 5, 3) := by decide +kernel
theorem dL_law_554 : decode cL_law 554 = .ok (.iconst 0, 1) := by decide +kernel
theorem dL_law_555 : decode cL_law 555 = .ok (.ireturn, 1) := by decide +kernel
theorem dL_law_556 : decode cL_law 556 = .ok (.iload 5, 2) := by decide +kernel
theorem dL_law_558 : decode cL_law 558 = .ok (.ifCond .ne 15, 3) := by decide +kernel
theorem dL_law_561 : decode cL_law 561 = .ok (.aload_n 3, 1) := by decide +kernel
theorem dL_law_562 : decode cL_law 562 = .ok (.iconst 0, 1) := by decide +kernel
theorem dL_law_563 : decode cL_law 563 = .ok (.laload, 1) := by decide +kernel
theorem dL_law_564 : decode cL_law 564 = .ok (.iload 6, 2) := by decide +kernel
theorem dL_law_566 : decode cL_law 566 = .ok (.i2l, 1) := by decide +kernel
theorem dL_law_567 : decode cL_law 567 = .ok (.lcmp, 1) := by decide +kernel
theorem dL_law_568 : decode cL_law 568 = .ok (.ifCond .eq 5, 3) := by decide +kernel
theorem dL_law_571 : decode cL_law 571 = .ok (.iconst 0, 1) := by decide +kernel
theorem dL_law_572 : decode cL_law 572 = .ok (.ireturn, 1) := by decide +kernel
theorem dL_law_573 : decode cL_law 573 = .ok (.goto 481, 3) := by decide +kernel
theorem dL_law_576 : decode cL_law 576 = .ok (.aload_n 1, 1) := by decide +kernel
theorem dL_law_577 : decode cL_law 577 = .ok (.aload_n 0, 1) := by decide +kernel
theorem dL_law_578 : decode cL_law 578 = .ok (.iload 4, 2) := by decide +kernel
theorem dL_law_580 : decode cL_law 580 = .ok (.iconst 1, 1) := by decide +kernel
theorem dL_law_581 : decode cL_law 581 = .ok (.iadd, 1) := by decide +kernel
theorem dL_law_582 : decode cL_law 582 = .ok (.iaload, 1) := by decide +kernel
theorem dL_law_583 : decode cL_law 583 = .ok (.aload_n 0, 1) := by decide +kernel
theorem dL_law_584 : decode cL_law 584 = .ok (.iload 4, 2) := by decide +kernel
theorem dL_law_586 : decode cL_law 586 = .ok (.iconst 2, 1) := by decide +kernel
theorem dL_law_587 : decode cL_law 587 = .ok (.iadd, 1) := by decide +kernel
theorem dL_law_588 : decode cL_law 588 = .ok (.iaload, 1) := by decide +kernel
theorem dL_law_589 : decode cL_law 589 = .ok (.aload_n 3, 1) := by decide +kernel
theorem dL_law_590 : decode cL_law 590 = .ok (.invokestatic 73, 3) := by decide +kernel
theorem dL_law_593 : decode cL_law 593 = .ok (.istore 5, 2) := by decide +kernel
theorem dL_law_595 : decode cL_law 595 = .ok (.aload_n 2, 1) := by decide +kernel
theorem dL_law_596 : decode cL_law 596 = .ok (.aload_n 0, 1) := by decide +kernel
theorem dL_law_597 : decode cL_law 597 = .ok (.iload 4, 2) := by decide +kernel
theorem dL_law_599 : decode cL_law 599 = .ok (.iconst 1, 1) := by decide +kernel
theorem dL_law_600 : decode cL_law 600 = .ok (.iadd, 1) := by decide +kernel
theorem dL_law_601 : decode cL_law 601 = .ok (.iaload, 1) := by decide +kernel
theorem dL_law_602 : decode cL_law 602 = .ok (.aload_n 0, 1) := by decide +kernel
theorem dL_law_603 : decode cL_law 603 = .ok (.iload 4, 2) := by decide +kernel
theorem dL_law_605 : decode cL_law 605 = .ok (.iconst 2, 1) := by decide +kernel
theorem dL_law_606 : decode cL_law 606 = .ok (.iadd, 1) := by decide +kernel
theorem dL_law_607 : decode cL_law 607 = .ok (.iaload, 1) := by decide +kernel
theorem dL_law_608 : decode cL_law 608 = .ok (.invokevirtual 75, 3) := by decide +kernel
theorem dL_law_611 : decode cL_law 611 = .ok (.istore 6, 2) := by decide +kernel
theorem dL_law_613 : decode cL_law 613 = .ok (.aload_n 2, 1) := by decide +kernel
theorem dL_law_614 : decode cL_law 614 = .ok (.invokevirtual 54, 3) := by decide +kernel
theorem dL_law_617 : decode cL_law 617 = .ok (.iload 5, 2) := by decide +kernel
theorem dL_law_619 : decode cL_law 619 = .ok (.if_icmp .eq 5, 3) := by decide +kernel
theorem dL_law_622 : decode cL_law 622 = .ok (.iconst 0, 1) := by decide +kernel
theorem dL_law_623 : decode cL_law 623 = .ok (.ireturn, 1) := by decide +kernel
theorem dL_law_624 : decode cL_law 624 = .ok (.iload 5, 2) := by decide +kernel
theorem dL_law_626 : decode cL_law 626 = .ok (.ifCond .ne 15, 3) := by decide +kernel
theorem dL_law_629 : decode cL_law 629 = .ok (.aload_n 3, 1) := by decide +kernel
theorem dL_law_630 : decode cL_law 630 = .ok (.iconst 0, 1) := by decide +kernel
theorem dL_law_631 : decode cL_law 631 = .ok (.laload, 1) := by decide +kernel
theorem dL_law_632 : decode cL_law 632 = .ok (.iload 6, 2) := by decide +kernel
theorem dL_law_634 : decode cL_law 634 = .ok (.i2l, 1) := by decide +kernel
theorem dL_law_635 : decode cL_law 635 = .ok (.lcmp, 1) := by decide +kernel
theorem dL_law_636 : decode cL_law 636 = .ok (.ifCond .eq 5, 3) := by decide +kernel
theorem dL_law_639 : decode cL_law 639 = .ok (.iconst 0, 1) := by decide +kernel
theorem dL_law_640 : decode cL_law 640 = .ok (.ireturn, 1) := by decide +kernel
theorem dL_law_641 : decode cL_law 641 = .ok (.goto 413, 3) := by decide +kernel
theorem dL_law_644 : decode cL_law 644 = .ok (.aload_n 1, 1) := by decide +kernel
theorem dL_law_645 : decode cL_law 645 = .ok (.aload_n 0, 1) := by decide +kernel
theorem dL_law_646 : decode cL_law 646 = .ok (.iload 4, 2) := by decide +kernel
theorem dL_law_648 : decode cL_law 648 = .ok (.iconst 1, 1) := by decide +kernel
theorem dL_law_649 : decode cL_law 649 = .ok (.iadd, 1) := by decide +kernel
theorem dL_law_650 : decode cL_law 650 = .ok (.iaload, 1) := by decide +kernel
theorem dL_law_651 : decode cL_law 651 = .ok (.invokevirtual 76, 3) := by decide +kernel
theorem dL_law_654 : decode cL_law 654 = .ok (.aload_n 2, 1) := by decide +kernel
theorem dL_law_655 : decode cL_law 655 = .ok (.aload_n 0, 1) := by decide +kernel
theorem dL_law_656 : decode cL_law 656 = .ok (.iload 4, 2) := by decide +kernel
theorem dL_law_658 : decode cL_law 658 = .ok (.iconst 1, 1) := by decide +kernel
theorem dL_law_659 : decode cL_law 659 = .ok (.iadd, 1) := by decide +kernel
theorem dL_law_660 : decode cL_law 660 = .ok (.iaload, 1) := by decide +kernel
theorem dL_law_661 : decode cL_law 661 = .ok (.invokevirtual 79, 3) := by decide +kernel
theorem dL_law_664 : decode cL_law 664 = .ok (.if_icmp .eq 390, 3) := by decide +kernel
theorem dL_law_667 : decode cL_law 667 = .ok (.iconst 0, 1) := by decide +kernel
theorem dL_law_668 : decode cL_law 668 = .ok (.ireturn, 1) := by decide +kernel
theorem dL_law_669 : decode cL_law 669 = .ok (.aload_n 1, 1) := by decide +kernel
theorem dL_law_670 : decode cL_law 670 = .ok (.aload_n 0, 1) := by decide +kernel
theorem dL_law_671 : decode cL_law 671 = .ok (.iload 4, 2) := by decide +kernel
theorem dL_law_673 : decode cL_law 673 = .ok (.iconst 1, 1) := by decide +kernel
theorem dL_law_674 : decode cL_law 674 = .ok (.iadd, 1) := by decide +kernel
theorem dL_law_675 : decode cL_law 675 = .ok (.iaload, 1) := by decide +kernel
theorem dL_law_676 : decode cL_law 676 = .ok (.invokevirtual 80, 3) := by decide +kernel
theorem dL_law_679 : decode cL_law 679 = .ok (.aload_n 2, 1) := by decide +kernel
theorem dL_law_680 : decode cL_law 680 = .ok (.aload_n 0, 1) := by decide +kernel
theorem dL_law_681 : decode cL_law 681 = .ok (.iload 4, 2) := by decide +kernel
theorem dL_law_683 : decode cL_law 683 = .ok (.iconst 1, 1) := by decide +kernel
theorem dL_law_684 : decode cL_law 684 = .ok (.iadd, 1) := by decide +kernel
theorem dL_law_685 : decode cL_law 685 = .ok (.iaload, 1) := by decide +kernel
theorem dL_law_686 : decode cL_law 686 = .ok (.invokevirtual 83, 3) := by decide +kernel
theorem dL_law_689 : decode cL_law 689 = .ok (.if_icmp .eq 365, 3) := by decide +kernel
theorem dL_law_692 : decode cL_law 692 = .ok (.iconst 0, 1) := by decide +kernel
theorem dL_law_693 : decode cL_law 693 = .ok (.ireturn, 1) := by decide +kernel
theorem dL_law_694 : decode cL_law 694 = .ok (.aload_n 1, 1) := by decide +kernel
theorem dL_law_695 : decode cL_law 695 = .ok (.aload_n 0, 1) := by decide +kernel
theorem dL_law_696 : decode cL_law 696 = .ok (.iload 4, 2) := by decide +kernel
theorem dL_law_698 : decode cL_law 698 = .ok (.iconst 1, 1) := by decide +kernel
theorem dL_law_699 : decode cL_law 699 = .ok (.iadd, 1) := by decide +kernel
theorem dL_law_700 : decode cL_law 700 = .ok (.iaload, 1) := by decide +kernel
theorem dL_law_701 : decode cL_law 701 = .ok (.aload_n 0, 1) := by decide +kernel
theorem dL_law_702 : decode cL_law 702 = .ok (.iload 4, 2) := by decide +kernel
theorem dL_law_704 : decode cL_law 704 = .ok (.iconst 2, 1) := by decide +kernel
theorem dL_law_705 : decode cL_law 705 = .ok (.iadd, 1) := by decide +kernel
theorem dL_law_706 : decode cL_law 706 = .ok (.iaload, 1) := by decide +kernel
theorem dL_law_707 : decode cL_law 707 = .ok (.aload_n 0, 1) := by decide +kernel
theorem dL_law_708 : decode cL_law 708 = .ok (.iload 4, 2) := by decide +kernel
theorem dL_law_710 : decode cL_law 710 = .ok (.iconst 3, 1) := by decide +kernel
theorem dL_law_711 : decode cL_law 711 = .ok (.iadd, 1) := by decide +kernel
theorem dL_law_712 : decode cL_law 712 = .ok (.iaload, 1) := by decide +kernel
theorem dL_law_713 : decode cL_law 713 = .ok (.aload_n 0, 1) := by decide +kernel
theorem dL_law_714 : decode cL_law 714 = .ok (.iload 4, 2) := by decide +kernel
theorem dL_law_716 : decode cL_law 716 = .ok (.iconst 4, 1) := by decide +kernel
theorem dL_law_717 : decode cL_law 717 = .ok (.iadd, 1) := by decide +kernel
theorem dL_law_718 : decode cL_law 718 = .ok (.iaload, 1) := by decide +kernel
theorem dL_law_719 : decode cL_law 719 = .ok (.aload_n 0, 1) := by decide +kernel
theorem dL_law_720 : decode cL_law 720 = .ok (.iload 4, 2) := by decide +kernel
theorem dL_law_722 : decode cL_law 722 = .ok (.iconst 5, 1) := by decide +kernel
theorem dL_law_723 : decode cL_law 723 = .ok (.iadd, 1) := by decide +kernel
theorem dL_law_724 : decode cL_law 724 = .ok (.iaload, 1) := by decide +kernel
theorem dL_law_725 : decode cL_law 725 = .ok (.invokevirtual 84, 3) := by decide +kernel
theorem dL_law_728 : decode cL_law 728 = .ok (.aload_n 2, 1) := by decide +kernel
theorem dL_law_729 : decode cL_law 729 = .ok (.aload_n 0, 1) := by decide +kernel
theorem dL_law_730 : decode cL_law 730 = .ok (.iload 4, 2) := by decide +kernel
theorem dL_law_732 : decode cL_law 732 = .ok (.iconst 1, 1) := by decide +kernel
theorem dL_law_733 : decode cL_law 733 = .ok (.iadd, 1) := by decide +kernel
theorem dL_law_734 : decode cL_law 734 = .ok (.iaload, 1) := by decide +kernel
theorem dL_law_735 : decode cL_law 735 = .ok (.aload_n 0, 1) := by decide +kernel
theorem dL_law_736 : decode cL_law 736 = .ok (.iload 4, 2) := by decide +kernel
theorem dL_law_738 : decode cL_law 738 = .ok (.iconst 2, 1) := by decide +kernel
theorem dL_law_739 : decode cL_law 739 = .ok (.iadd, 1) := by decide +kernel
theorem dL_law_740 : decode cL_law 740 = .ok (.iaload, 1) := by decide +kernel
theorem dL_law_741 : decode cL_law 741 = .ok (.aload_n 0, 1) := by decide +kernel
theorem dL_law_742 : decode cL_law 742 = .ok (.iload 4, 2) := by decide +kernel
theorem dL_law_744 : decode cL_law 744 = .ok (.iconst 3, 1) := by decide +kernel
theorem dL_law_745 : decode cL_law 745 = .ok (.iadd, 1) := by decide +kernel
theorem dL_law_746 : decode cL_law 746 = .ok (.iaload, 1) := by decide +kernel
theorem dL_law_747 : decode cL_law 747 = .ok (.aload_n 0, 1) := by decide +kernel
theorem dL_law_748 : decode cL_law 748 = .ok (.iload 4, 2) := by decide +kernel
theorem dL_law_750 : decode cL_law 750 = .ok (.iconst 4, 1) := by decide +kernel
theorem dL_law_751 : decode cL_law 751 = .ok (.iadd, 1) := by decide +kernel
theorem dL_law_752 : decode cL_law 752 = .ok (.iaload, 1) := by decide +kernel
theorem dL_law_753 : decode cL_law 753 = .ok (.aload_n 0, 1) := by decide +kernel
theorem dL_law_754 : decode cL_law 754 = .ok (.iload 4, 2) := by decide +kernel
theorem dL_law_756 : decode cL_law 756 = .ok (.iconst 5, 1) := by decide +kernel
theorem dL_law_757 : decode cL_law 757 = .ok (.iadd, 1) := by decide +kernel
theorem dL_law_758 : decode cL_law 758 = .ok (.iaload, 1) := by decide +kernel
theorem dL_law_759 : decode cL_law 759 = .ok (.invokevirtual 87, 3) := by decide +kernel
theorem dL_law_762 : decode cL_law 762 = .ok (.if_icmp .eq 292, 3) := by decide +kernel
theorem dL_law_765 : decode cL_law 765 = .ok (.iconst 0, 1) := by decide +kernel
theorem dL_law_766 : decode cL_law 766 = .ok (.ireturn, 1) := by decide +kernel
theorem dL_law_767 : decode cL_law 767 = .ok (.aload_n 1, 1) := by decide +kernel
theorem dL_law_768 : decode cL_law 768 = .ok (.aload_n 0, 1) := by decide +kernel
theorem dL_law_769 : decode cL_law 769 = .ok (.iload 4, 2) := by decide +kernel
theorem dL_law_771 : decode cL_law 771 = .ok (.iconst 1, 1) := by decide +kernel
theorem dL_law_772 : decode cL_law 772 = .ok (.iadd, 1) := by decide +kernel
theorem dL_law_773 : decode cL_law 773 = .ok (.iaload, 1) := by decide +kernel
theorem dL_law_774 : decode cL_law 774 = .ok (.aload_n 0, 1) := by decide +kernel
theorem dL_law_775 : decode cL_law 775 = .ok (.iload 4, 2) := by decide +kernel
theorem dL_law_777 : decode cL_law 777 = .ok (.iconst 2, 1) := by decide +kernel
theorem dL_law_778 : decode cL_law 778 = .ok (.iadd, 1) := by decide +kernel
theorem dL_law_779 : decode cL_law 779 = .ok (.iaload, 1) := by decide +kernel
theorem dL_law_780 : decode cL_law 780 = .ok (.aload_n 0, 1) := by decide +kernel
theorem dL_law_781 : decode cL_law 781 = .ok (.iload 4, 2) := by decide +kernel
theorem dL_law_783 : decode cL_law 783 = .ok (.iconst 3, 1) := by decide +kernel
theorem dL_law_784 : decode cL_law 784 = .ok (.iadd, 1) := by decide +kernel
theorem dL_law_785 : decode cL_law 785 = .ok (.iaload, 1) := by decide +kernel
theorem dL_law_786 : decode cL_law 786 = .ok (.aload_n 0, 1) := by decide +kernel
theorem dL_law_787 : decode cL_law 787 = .ok (.iload 4, 2) := by decide +kernel
theorem dL_law_789 : decode cL_law 789 = .ok (.iconst 4, 1) := by decide +kernel
theorem dL_law_790 : decode cL_law 790 = .ok (.iadd, 1) := by decide +kernel
theorem dL_law_791 : decode cL_law 791 = .ok (.iaload, 1) := by decide +kernel
theorem dL_law_792 : decode cL_law 792 = .ok (.invokevirtual 88, 3) := by decide +kernel
theorem dL_law_795 : decode cL_law 795 = .ok (.aload_n 2, 1) := by decide +kernel
theorem dL_law_796 : decode cL_law 796 = .ok (.aload_n 0, 1) := by decide +kernel
theorem dL_law_797 : decode cL_law 797 = .ok (.iload 4, 2) := by decide +kernel
theorem dL_law_799 : decode cL_law 799 = .ok (.iconst 1, 1) := by decide +kernel
theorem dL_law_800 : decode cL_law 800 = .ok (.iadd, 1) := by decide +kernel
theorem dL_law_801 : decode cL_law 801 = .ok (.iaload, 1) := by decide +kernel
theorem dL_law_802 : decode cL_law 802 = .ok (.aload_n 0, 1) := by decide +kernel
theorem dL_law_803 : decode cL_law 803 = .ok (.iload 4, 2) := by decide +kernel
theorem dL_law_805 : decode cL_law 805 = .ok (.iconst 2, 1) := by decide +kernel
theorem dL_law_806 : decode cL_law 806 = .ok (.iadd, 1) := by decide +kernel
theorem dL_law_807 : decode cL_law 807 = .ok (.iaload, 1) := by decide +kernel
theorem dL_law_808 : decode cL_law 808 = .ok (.aload_n 0, 1) := by decide +kernel
theorem dL_law_809 : decode cL_law 809 = .ok (.iload 4, 2) := by decide +kernel
theorem dL_law_811 : decode cL_law 811 = .ok (.iconst 3, 1) := by decide +kernel
theorem dL_law_812 : decode cL_law 812 = .ok (.iadd, 1) := by decide +kernel
theorem dL_law_813 : decode cL_law 813 = .ok (.iaload, 1) := by decide +kernel
theorem dL_law_814 : decode cL_law 814 = .ok (.aload_n 0, 1) := by decide +kernel
theorem dL_law_815 : decode cL_law 815 = .ok (.iload 4, 2) := by decide +kernel
theorem dL_law_817 : decode cL_law 817 = .ok (.iconst 4, 1) := by decide +kernel
theorem dL_law_818 : decode cL_law 818 = .ok (.iadd, 1) := by decide +kernel
theorem dL_law_819 : decode cL_law 819 = .ok (.iaload, 1) := by decide +kernel
theorem dL_law_820 : decode cL_law 820 = .ok (.invokevirtual 92, 3) := by decide +kernel
theorem dL_law_823 : decode cL_law 823 = .ok (.if_icmp .eq 231, 3) := by decide +kernel
theorem dL_law_826 : decode cL_law 826 = .ok (.iconst 0, 1) := by decide +kernel
theorem dL_law_827 : decode cL_law 827 = .ok (.ireturn, 1) := by decide +kernel
theorem dL_law_828 : decode cL_law 828 = .ok (.aload_n 1, 1) := by decide +kernel
theorem dL_law_829 : decode cL_law 829 = .ok (.invokevirtual 93, 3) := by decide +kernel
theorem dL_law_832 : decode cL_law 832 = .ok (.aload_n 2, 1) := by decide +kernel
theorem dL_law_833 : decode cL_law 833 = .ok (.invokevirtual 96, 3) := by decide +kernel
theorem dL_law_836 : decode cL_law 836 = .ok (.if_icmp .eq 218, 3) := by decide +kernel
theorem dL_law_839 : decode cL_law 839 = .ok (.iconst 0, 1) := by decide +kernel
theorem dL_law_840 : decode cL_law 840 = .ok (.ireturn, 1) := by decide +kernel
theorem dL_law_841 : decode cL_law 841 = .ok (.aload_n 1, 1) := by decide +kernel
theorem dL_law_842 : decode cL_law 842 = .ok (.aload_n 0, 1) := by decide +kernel
theorem dL_law_843 : decode cL_law 843 = .ok (.iload 4, 2) := by decide +kernel
theorem dL_law_845 : decode cL_law 845 = .ok (.iconst 1, 1) := by decide +kernel
theorem dL_law_846 : decode cL_law 846 = .ok (.iadd, 1) := by decide +kernel
theorem dL_law_847 : decode cL_law 847 = .ok (.iaload, 1) := by decide +kernel
theorem dL_law_848 : decode cL_law 848 = .ok (.invokevirtual 97, 3) := by decide +kernel
theorem dL_law_851 : decode cL_law 851 = .ok (.aload_n 2, 1) := by decide +kernel
theorem dL_law_852 : decode cL_law 852 = .ok (.aload_n 0, 1) := by decide +kernel
theorem dL_law_853 : decode cL_law 853 = .ok (.iload 4, 2) := by decide +kernel
theorem dL_law_855 : decode cL_law 855 = .ok (.iconst 1, 1) := by decide +kernel
theorem dL_law_856 : decode cL_law 856 = .ok (.iadd, 1) := by decide +kernel
theorem dL_law_857 : decode cL_law 857 = .ok (.iaload, 1) := by decide +kernel
theorem dL_law_858 : decode cL_law 858 = .ok (.invokevirtual 100, 3) := by decide +kernel
theorem dL_law_861 : decode cL_law 861 = .ok (.if_icmp .eq 193, 3) := by decide +kernel
theorem dL_law_864 : decode cL_law 864 = .ok (.iconst 0, 1) := by decide +kernel
theorem dL_law_865 : decode cL_law 865 = .ok (.ireturn, 1) := by decide +kernel
theorem dL_law_866 : decode cL_law 866 = .ok (.aload_n 1, 1) := by decide +kernel
theorem dL_law_867 : decode cL_law 867 = .ok (.aload_n 0, 1) := by decide +kernel
theorem dL_law_868 : decode cL_law 868 = .ok (.iload 4, 2) := by decide +kernel
theorem dL_law_870 : decode cL_law 870 = .ok (.iconst 1, 1) := by decide +kernel
theorem dL_law_871 : decode cL_law 871 = .ok (.iadd, 1) := by decide +kernel
theorem dL_law_872 : decode cL_law 872 = .ok (.iaload, 1) := by decide +kernel
theorem dL_law_873 : decode cL_law 873 = .ok (.aload_n 0, 1) := by decide +kernel
theorem dL_law_874 : decode cL_law 874 = .ok (.iload 4, 2) := by decide +kernel
theorem dL_law_876 : decode cL_law 876 = .ok (.iconst 2, 1) := by decide +kernel
theorem dL_law_877 : decode cL_law 877 = .ok (.iadd, 1) := by decide +kernel
theorem dL_law_878 : decode cL_law 878 = .ok (.iaload, 1) := by decide +kernel
theorem dL_law_879 : decode cL_law 879 = .ok (.aload_n 0, 1) := by decide +kernel
theorem dL_law_880 : decode cL_law 880 = .ok (.iload 4, 2) := by decide +kernel
theorem dL_law_882 : decode cL_law 882 = .ok (.iconst 3, 1) := by decide +kernel
theorem dL_law_883 : decode cL_law 883 = .ok (.iadd, 1) := by decide +kernel
theorem dL_law_884 : decode cL_law 884 = .ok (.iaload, 1) := by decide +kernel
theorem dL_law_885 : decode cL_law 885 = .ok (.aload_n 0, 1) := by decide +kernel
theorem dL_law_886 : decode cL_law 886 = .ok (.iload 4, 2) := by decide +kernel
theorem dL_law_888 : decode cL_law 888 = .ok (.iconst 4, 1) := by decide +kernel
theorem dL_law_889 : decode cL_law 889 = .ok (.iadd, 1) := by decide +kernel
theorem dL_law_890 : decode cL_law 890 = .ok (.iaload, 1) := by decide +kernel
theorem dL_law_891 : decode cL_law 891 = .ok (.invokevirtual 101, 3) := by decide +kernel
theorem dL_law_894 : decode cL_law 894 = .ok (.aload_n 2, 1) := by decide +kernel
theorem dL_law_895 : decode cL_law 895 = .ok (.aload_n 0, 1) := by decide +kernel
theorem dL_law_896 : decode cL_law 896 = .ok (.iload 4, 2) := by decide +kernel
theorem dL_law_898 : decode cL_law 898 = .ok (.iconst 1, 1) := by decide +kernel
theorem dL_law_899 : decode cL_law 899 = .ok (.iadd, 1) := by decide +kernel
theorem dL_law_900 : decode cL_law 900 = .ok (.iaload, 1) := by decide +kernel
theorem dL_law_901 : decode cL_law 901 = .ok (.aload_n 0, 1) := by decide +kernel
theorem dL_law_902 : decode cL_law 902 = .ok (.iload 4, 2) := by decide +kernel
theorem dL_law_904 : decode cL_law 904 = .ok (.iconst 2, 1) := by decide +kernel
theorem dL_law_905 : decode cL_law 905 = .ok (.iadd, 1) := by decide +kernel
theorem dL_law_906 : decode cL_law 906 = .ok (.iaload, 1) := by decide +kernel
theorem dL_law_907 : decode cL_law 907 = .ok (.aload_n 0, 1) := by decide +kernel
theorem dL_law_908 : decode cL_law 908 = .ok (.iload 4, 2) := by decide +kernel
theorem dL_law_910 : decode cL_law 910 = .ok (.iconst 3, 1) := by decide +kernel
theorem dL_law_911 : decode cL_law 911 = .ok (.iadd, 1) := by decide +kernel
theorem dL_law_912 : decode cL_law 912 = .ok (.iaload, 1) := by decide +kernel
theorem dL_law_913 : decode cL_law 913 = .ok (.aload_n 0, 1) := by decide +kernel
theorem dL_law_914 : decode cL_law 914 = .ok (.iload 4, 2) := by decide +kernel
theorem dL_law_916 : decode cL_law 916 = .ok (.iconst 4, 1) := by decide +kernel
theorem dL_law_917 : decode cL_law 917 = .ok (.iadd, 1) := by decide +kernel
theorem dL_law_918 : decode cL_law 918 = .ok (.iaload, 1) := by decide +kernel
theorem dL_law_919 : decode cL_law 919 = .ok (.invokevirtual 104, 3) := by decide +kernel
theorem dL_law_922 : decode cL_law 922 = .ok (.if_icmp .eq 132, 3) := by decide +kernel
theorem dL_law_925 : decode cL_law 925 = .ok (.iconst 0, 1) := by decide +kernel
theorem dL_law_926 : decode cL_law 926 = .ok (.ireturn, 1) := by decide +kernel
theorem dL_law_927 : decode cL_law 927 = .ok (.aload_n 1, 1) := by decide +kernel
theorem dL_law_928 : decode cL_law 928 = .ok (.invokevirtual 105, 3) := by decide +kernel
theorem dL_law_931 : decode cL_law 931 = .ok (.aload_n 2, 1) := by decide +kernel
theorem dL_law_932 : decode cL_law 932 = .ok (.invokevirtual 108, 3) := by decide +kernel
theorem dL_law_935 : decode cL_law 935 = .ok (.if_icmp .eq 119, 3) := by decide +kernel
theorem dL_law_938 : decode cL_law 938 = .ok (.iconst 0, 1) := by decide +kernel
theorem dL_law_939 : decode cL_law 939 = .ok (.ireturn, 1) := by decide +kernel
theorem dL_law_940 : decode cL_law 940 = .ok (.aload_n 1, 1) := by decide +kernel
theorem dL_law_941 : decode cL_law 941 = .ok (.invokevirtual 109, 3) := by decide +kernel
theorem dL_law_944 : decode cL_law 944 = .ok (.aload_n 2, 1) := by decide +kernel
theorem dL_law_945 : decode cL_law 945 = .ok (.invokevirtual 112, 3) := by decide +kernel
theorem dL_law_948 : decode cL_law 948 = .ok (.if_icmp .eq 106, 3) := by decide +kernel
theorem dL_law_951 : decode cL_law 951 = .ok (.iconst 0, 1) := by decide +kernel
theorem dL_law_952 : decode cL_law 952 = .ok (.ireturn, 1) := by decide +kernel
theorem dL_law_953 : decode cL_law 953 = .ok (.aload_n 1, 1) := by decide +kernel
theorem dL_law_954 : decode cL_law 954 = .ok (.aload_n 0, 1) := by decide +kernel
theorem dL_law_955 : decode cL_law 955 = .ok (.iload 4, 2) := by decide +kernel
theorem dL_law_957 : decode cL_law 957 = .ok (.iconst 1, 1) := by decide +kernel
theorem dL_law_958 : decode cL_law 958 = .ok (.iadd, 1) := by decide +kernel
theorem dL_law_959 : decode cL_law 959 = .ok (.iaload, 1) := by decide +kernel
theorem dL_law_960 : decode cL_law 960 = .ok (.invokevirtual 113, 3) := by decide +kernel
theorem dL_law_963 : decode cL_law 963 = .ok (.aload_n 2, 1) := by decide +kernel
theorem dL_law_964 : decode cL_law 964 = .ok (.aload_n 0, 1) := by decide +kernel
theorem dL_law_965 : decode cL_law 965 = .ok (.iload 4, 2) := by decide +kernel
theorem dL_law_967 : decode cL_law 967 = .ok (.iconst 1, 1) := by decide +kernel
theorem dL_law_968 : decode cL_law 968 = .ok (.iadd, 1) := by decide +kernel
theorem dL_law_969 : decode cL_law 969 = .ok (.iaload, 1) := by decide +kernel
theorem dL_law_970 : decode cL_law 970 = .ok (.invokevirtual 116, 3) := by decide +kernel
theorem dL_law_973 : decode cL_law 973 = .ok (.if_icmp .eq 81, 3) := by decide +kernel
theorem dL_law_976 : decode cL_law 976 = .ok (.iconst 0, 1) := by decide +kernel
theorem dL_law_977 : decode cL_law 977 = .ok (.ireturn, 1) := by decide +kernel
theorem dL_law_978 : decode cL_law 978 = .ok (.aload_n 1, 1) := by decide +kernel
theorem dL_law_979 : decode cL_law 979 = .ok (.aload_n 0, 1) := by decide +kernel
theorem dL_law_980 : decode cL_law 980 = .ok (.iload 4, 2) := by decide +kernel
theorem dL_law_982 : decode cL_law 982 = .ok (.iconst 1, 1) := by decide +kernel
theorem dL_law_983 : decode cL_law 983 = .ok (.iadd, 1) := by decide +kernel
theorem dL_law_984 : decode cL_law 984 = .ok (.iaload, 1) := by decide +kernel
theorem dL_law_985 : decode cL_law 985 = .ok (.invokevirtual 117, 3) := by decide +kernel
theorem dL_law_988 : decode cL_law 988 = .ok (.aload_n 2, 1) := by decide +kernel
theorem dL_law_989 : decode cL_law 989 = .ok (.aload_n 0, 1) := by decide +kernel
theorem dL_law_990 : decode cL_law 990 = .ok (.iload 4, 2) := by decide +kernel
theorem dL_law_992 : decode cL_law 992 = .ok (.iconst 1, 1) := by decide +kernel
theorem dL_law_993 : decode cL_law 993 = .ok (.iadd, 1) := by decide +kernel
theorem dL_law_994 : decode cL_law 994 = .ok (.iaload, 1) := by decide +kernel
theorem dL_law_995 : decode cL_law 995 = .ok (.invokevirtual 120, 3) := by decide +kernel
theorem dL_law_998 : decode cL_law 998 = .ok (.if_icmp .eq 56, 3) := by decide +kernel
theorem dL_law_1001 : decode cL_law 1001 = .ok (.iconst 0, 1) := by decide +kernel
theorem dL_law_1002 : decode cL_law 1002 = .ok (.ireturn, 1) := by decide +kernel
theorem dL_law_1003 : decode cL_law 1003 = .ok (.aload_n 1, 1) := by decide +kernel
theorem dL_law_1004 : decode cL_law 1004 = .ok (.invokevirtual 121, 3) := by decide +kernel
theorem dL_law_1007 : decode cL_law 1007 = .ok (.aload_n 2, 1) := by decide +kernel
theorem dL_law_1008 : decode cL_law 1008 = .ok (.invokevirtual 124, 3) := by decide +kernel
theorem dL_law_1011 : decode cL_law 1011 = .ok (.if_icmp .eq 43, 3) := by decide +kernel
theorem dL_law_1014 : decode cL_law 1014 = .ok (.iconst 0, 1) := by decide +kernel
theorem dL_law_1015 : decode cL_law 1015 = .ok (.ireturn, 1) := by decide +kernel
theorem dL_law_1016 : decode cL_law 1016 = .ok (.aload_n 1, 1) := by decide +kernel
theorem dL_law_1017 : decode cL_law 1017 = .ok (.aload_n 0, 1) := by decide +kernel
theorem dL_law_1018 : decode cL_law 1018 = .ok (.iload 4, 2) := by decide +kernel
theorem dL_law_1020 : decode cL_law 1020 = .ok (.iconst 1, 1) := by decide +kernel
theorem dL_law_1021 : decode cL_law 1021 = .ok (.iadd, 1) := by decide +kernel
theorem dL_law_1022 : decode cL_law 1022 = .ok (.iaload, 1) := by decide +kernel
theorem dL_law_1023 : decode cL_law 1023 = .ok (.invokevirtual 125, 3) := by decide +kernel
theorem dL_law_1026 : decode cL_law 1026 = .ok (.aload_n 2, 1) := by decide +kernel
theorem dL_law_1027 : decode cL_law 1027 = .ok (.aload_n 0, 1) := by decide +kernel
theorem dL_law_1028 : decode cL_law 1028 = .ok (.iload 4, 2) := by decide +kernel
theorem dL_law_1030 : decode cL_law 1030 = .ok (.iconst 1, 1) := by decide +kernel
theorem dL_law_1031 : decode cL_law 1031 = .ok (.iadd, 1) := by decide +kernel
theorem dL_law_1032 : decode cL_law 1032 = .ok (.iaload, 1) := by decide +kernel
theorem dL_law_1033 : decode cL_law 1033 = .ok (.invokevirtual 128, 3) := by decide +kernel
theorem dL_law_1036 : decode cL_law 1036 = .ok (.if_icmp .eq 18, 3) := by decide +kernel
theorem dL_law_1039 : decode cL_law 1039 = .ok (.iconst 0, 1) := by decide +kernel
theorem dL_law_1040 : decode cL_law 1040 = .ok (.ireturn, 1) := by decide +kernel
theorem dL_law_1041 : decode cL_law 1041 = .ok (.aload_n 1, 1) := by decide +kernel
theorem dL_law_1042 : decode cL_law 1042 = .ok (.invokevirtual 129, 3) := by decide +kernel
theorem dL_law_1045 : decode cL_law 1045 = .ok (.aload_n 2, 1) := by decide +kernel
theorem dL_law_1046 : decode cL_law 1046 = .ok (.invokevirtual 132, 3) := by decide +kernel
theorem dL_law_1049 : decode cL_law 1049 = .ok (.if_icmp .eq 5, 3) := by decide +kernel
theorem dL_law_1052 : decode cL_law 1052 = .ok (.iconst 0, 1) := by decide +kernel
theorem dL_law_1053 : decode cL_law 1053 = .ok (.ireturn, 1) := by decide +kernel
theorem dL_law_1054 : decode cL_law 1054 = .ok (.iinc 4 6, 3) := by decide +kernel
theorem dL_law_1057 : decode cL_law 1057 = .ok (.goto (-1034), 3) := by decide +kernel
theorem dL_law_1060 : decode cL_law 1060 = .ok (.iconst 1, 1) := by decide +kernel
theorem dL_law_1061 : decode cL_law 1061 = .ok (.ireturn, 1) := by decide +kernel
end
section
/-! 'throw new NoSuchElementException(text)': its constructor passes on at pool entry 13, so the library's chain (entry 7 all the way) doesn't serve; the chain above it does. -/
abbrev z_NS : String := "java/util/NoSuchElementException"
abbrev z_RE : String := "java/lang/RuntimeException"
def z_b13 : ByteArray := ⟨#[0x2a, 0x2b, 0xb7, 0x00, 0x0d, 0xb1]⟩
def z_own (own : String) (ic : Nat) : List Cond := Bundle.throwableAtoms ++ Bundle.throwableSAtoms ++ (Bundle.passSAtoms z_NS z_RE 13 z_b13 ++ Bundle.chainSAtoms z_RE ["java/lang/Exception"]) ++
  [.methodLink own ic (Bundle.initS z_NS), .instantiable z_NS 6, .castable z_NS z_NS, .selects z_NS Bundle.tFill0 Bundle.tFill0, .selects z_NS Bundle.tFill Bundle.tFill,
   .lays z_NS Bundle.tN "cause" "Ljava/lang/Throwable;", .lays z_NS Bundle.tN "stackTrace" Bundle.steD, .lays z_NS Bundle.tN "suppressedExceptions" Bundle.listD, .lays z_NS Bundle.tN "detailMessage" "Ljava/lang/String;",
   .isRef (.static Bundle.tN "UNASSIGNED_STACK" Bundle.steD), .isRef (.static Bundle.tN "SUPPRESSED_SENTINEL" Bundle.listD),
   .fieldLink Bundle.tN 198 Bundle.tN "backtrace" "Ljava/lang/Object;", .lays Bundle.tN Bundle.tN "backtrace" "Ljava/lang/Object;", .lays z_NS Bundle.tN "backtrace" "Ljava/lang/Object;"]
theorem z_b13_0 : decode z_b13 0 = .ok (.aload_n 0, 1) := by decide +kernel
theorem z_b13_1 : decode z_b13 1 = .ok (.aload_n 1, 1) := by decide +kernel
theorem z_b13_2 : decode z_b13 2 = .ok (.invokespecial 13, 3) := by decide +kernel
theorem z_b13_5 : decode z_b13 5 = .ok (.return_, 1) := by decide +kernel
section
variable {p : Program} {l : Launch} {e : Env} {R : Room} {s : State} {m₀ : MethodId} {args : Array Value} {below : List Frame} {meth : Method} {c : Code} {W : State} {locs : List Loc} {cells slots : Nat}
set_option maxHeartbeats 2000000 in
theorem z_ctorThrow (X : Stand p l e R s m₀ args below meth c W locs cells slots) (hexec : p.tables.exec = Jvm.exec) (htr : e.platform.stackTraces = false) {own : String} {ic : Nat} (hown : s.vm.findClass own = some m₀.cls)
    (h : ∀ a ∈ z_own own ic, a.before args s = true) (hlocs : ∀ x ∈ locs, ∀ cell, s.heap[x.base]? = some cell → cell.vm.isStatics = false)
    {a : Addr} {cX : ClassId} {kX : Class} (hfX : s.vm.findClass z_NS = some cX) (hkX : s.vm.classes[cX]? = some kX) (hcell : W.heap[a]? = some (freshCell cX kX)) (hnew : s.heap.size ≤ a) {msg : Value} (hmsg : msg.isRef = true)
    {g : JFrame} (hg : g.method = m₀) (hsize : g.locals.size = c.maxLocals) (hlocked : g.locked = none) (hentered : g.entered = []) {rest : List Value} (hstack : g.stack = msg :: .ref a :: .ref a :: rest)
    (hd6 : decode c.code g.pc = .ok (.invokespecial ic, 3)) (hd9 : decode c.code (g.pc + 3) = .ok (.athrow, 1)) (hout : ∀ x ∈ c.exceptionTable.toList, covers x (g.pc + 3) = false)
    (hRf : 5 < R.frames) (hRl : 2 * g.monitorRoom + ((Value.ref a :: rest).map fun v => v.category).sum + 81 ≤ R.locals) (hlocks : meth.locks = false) :
    ∃ U : State, Steps p.tables e below (W.setTop g) U ∧ U.status = .running ∧ Ended U below (.threw a) ∧ s.WarmedH U.vm ∧ s.sameButNew ({ U with vm := s.vm } : State) locs cells slots ∧ ∃ ce, U.heap[a]? = some ce ∧ ce.cls = cX ∧ ce.vm = .none := by
  have howns : e.platform.frameOwnsMonitors = true := by rw [X.admits.platform]
  have hfin : e.platform.finalization = false := by rw [X.admits.platform]
  have hpl : e.platform.magicAccessors = ({} : Platform).magicAccessors := by rw [X.admits.platform]
  obtain ⟨T, Z0, L, -, Y⟩ := ThrowableC.of_atoms (args := args) howns hfin hpl (fun x hx => h x (by simp [z_own, hx]))
  obtain ⟨Z, M, LZ, LM, hnZ⟩ := Init0T.ofS_atoms (args := args) hpl L Y (fun x hx => h x (by simp [z_own, hx]))
  obtain ⟨P2, Ps, hlen, L2, hL, hP2m, hlink2, hlink⟩ := Bundle.chainS (args := args) hpl hnZ ["java/lang/Exception"] z_RE (by decide +kernel) (by decide +kernel) (fun x hx => h x (by simp [z_own, hx]))
  obtain ⟨P1, L1, hP1m, hP1s⟩ := PassC.ofS_atoms (args := args) (s := s) hpl (X := z_NS) (Y := z_RE) (by decide +kernel) (by decide) z_b13_0 z_b13_1 z_b13_2 z_b13_5 (fun x hx => h x (by simp [z_own, hx]))
  have hlink1 : P1.sup = P2.m := Option.some.inj (hP1s.symm.trans hP2m)
  have hfound : s.vm.findClass z_NS = some P1.m.cls := findClass_of_methodNamed hP1m
  cases Option.some.inj (hfX.symm.trans hfound)
  obtain ⟨c1, kX', hc1, hk, hord, -, -, hn6⟩ := Cond.instantiable_spec (h (.instantiable z_NS 6) (by simp [z_own]))
  cases Option.some.inj (hc1.symm.trans hfound)
  cases Option.some.inj (hkX.symm.trans hk)
  have hsel0 : selectMethod e.platform s.vm P1.m.cls T.fill0 = .method T.fill0 := by
    obtain ⟨c2, r2, m2, q1, q2, q3, q4, -⟩ := Cond.selects_spec (h (.selects z_NS Bundle.tFill0 Bundle.tFill0) (by simp [z_own]))
    cases Option.some.inj (q1.symm.trans hfound)
    cases Option.some.inj (q2.symm.trans (State.methodFound?_of_named Y.fill0 (by decide)))
    cases Option.some.inj (q3.symm.trans Y.fill0)
    rw [Launch.admits_selectMethod X.admits]; exact q4
  have hselF : selectMethod e.platform s.vm P1.m.cls T.fill = .method T.fill := by
    obtain ⟨c2, r2, m2, q1, q2, q3, q4, -⟩ := Cond.selects_spec (h (.selects z_NS Bundle.tFill Bundle.tFill) (by simp [z_own]))
    cases Option.some.inj (q1.symm.trans hfound)
    cases Option.some.inj (q2.symm.trans (State.methodFound?_of_named Y.fill (by decide)))
    cases Option.some.inj (q3.symm.trans Y.fill)
    rw [Launch.admits_selectMethod X.admits]; exact q4
  obtain ⟨cellS0, hcS0, hiss⟩ := Y.statics
  obtain ⟨u0, hu0⟩ := Cond.staticRefV Y.unassigned L.unassignedStatic L.statics hcS0 hiss (h (.isRef (.static Bundle.tN "UNASSIGNED_STACK" Bundle.steD)) (by simp [z_own]))
  obtain ⟨sen, hsen⟩ := Cond.staticRefV Y.sentinel L.sentinelStatic L.statics hcS0 hiss (h (.isRef (.static Bundle.tN "SUPPRESSED_SENTINEL" Bundle.listD)) (by simp [z_own]))
  obtain ⟨ci198, i198, fB, hk198, hg198, ha198, hsB, -, hnB, htB, hffB⟩ := Cond.ownField (t := .object "java/lang/Object") Y.found L.cls (by decide +kernel) (h (.fieldLink Bundle.tN 198 Bundle.tN "backtrace" "Ljava/lang/Object;") (by simp [z_own])) (h (.lays Bundle.tN Bundle.tN "backtrace" "Ljava/lang/Object;") (by simp [z_own])) e.platform hpl
  obtain ⟨cellS, hcS', heS, -, hkeep⟩ := X.same.2.2.2.2.2 T.aS cellS0 hcS0
  have hcellS : W.heap[T.aS]? = some cellS := hcS'
  have hout' : ∀ i, (⟨T.aS, i⟩ : Loc) ∉ locs := fun i hmem => by
    have h9 := hlocs _ hmem cellS0 hcS0
    rw [hiss] at h9; cases h9
  have hknownS : cellS.vm ≠ .unknown := by
    rw [heS]; intro hu
    rw [show cellS0.vm = .unknown from hu] at hiss
    cases hiss
  have hneS : T.aS ≠ a := Nat.ne_of_lt (Nat.lt_of_lt_of_le (Array.getElem?_eq_some_iff.mp hcS0).1 hnew)
  obtain ⟨iM, hffM⟩ := Y.msg
  obtain ⟨tyC, dC, hdC, hdnC⟩ := Cond.laysAt hfound hk Y.cause (h (.lays z_NS Bundle.tN "cause" "Ljava/lang/Throwable;") (by simp [z_own]))
  obtain ⟨tyS, dS, hdS, hdnS⟩ := Cond.laysAt hfound hk Y.stack (h (.lays z_NS Bundle.tN "stackTrace" Bundle.steD) (by simp [z_own]))
  obtain ⟨tyP, dP, hdP, hdnP⟩ := Cond.laysAt hfound hk Y.supp (h (.lays z_NS Bundle.tN "suppressedExceptions" Bundle.listD) (by simp [z_own]))
  obtain ⟨tyM, dM, hdM, hdnM⟩ := Cond.laysAt hfound hk hffM (h (.lays z_NS Bundle.tN "detailMessage" "Ljava/lang/String;") (by simp [z_own]))
  obtain ⟨tyB, dB, hdB, hdnB⟩ := Cond.laysAt hfound hk hffB (h (.lays z_NS Bundle.tN "backtrace" "Ljava/lang/Object;") (by simp [z_own]))
  have bC := Cond.laysApart hdB hdC hdnB hdnC (by rw [hnB, Y.causeName]; decide)
  have bS := Cond.laysApart hdB hdS hdnB hdnS (by rw [hnB, Y.stackName]; decide)
  have bP := Cond.laysApart hdB hdP hdnB hdnP (by rw [hnB, Y.suppName]; decide)
  have hskip : SkipFacts T e.platform s (fun u => u) u0 ((preparedCellV T.toThrowableT (freshCell P1.m.cls kX) a u0 sen).withEntry W.cur) :=
    ⟨{ ci198 := ci198, i198 := i198, fBack := fB }, ⟨hk198, hg198, ha198, hsB⟩, by
      have h9 := fresh_default (c := P1.m.cls) tyB
      rw [htB] at h9
      simpa [preparedCellV, Cell.setSlot, Cell.withEntry, Array.getElem?_setIfInBounds, bC, bS, bP, bC.symm, bS.symm, bP.symm, defaultValue] using h9, fun _ _ => rfl⟩
  obtain ⟨tm, methC, cdC, kC, vm₁, hnC, -, -, -, -, -, -, -, hW₁, st1⟩ := Steps.initColdS (tb := p.tables) (e := e) (below := below) (s := s) (U := W) X.here hexec X.warmed hpl hown (t := Bundle.initS z_NS) rfl rfl (by decide)
    (h (.methodLink own ic (Bundle.initS z_NS)) (by simp [z_own])) (h (.instanceMethod (Bundle.initS z_NS)) (by simp [z_own, Bundle.passSAtoms])) (bytes := z_b13) (maxL := 2) (h (.code (Bundle.initS z_NS) z_b13 2 none) (by simp [z_own, Bundle.passSAtoms]))
    (f := g) hg (a := a) (msg := msg) (rest := .ref a :: rest) hstack hd6
  cases Option.some.inj (hnC.symm.trans hP1m)
  have X₁ := X.noted hW₁
  obtain ⟨vm₂, X₂, st2⟩ := X₁.ctorMessageOffV hexec (g := { g with stack := .ref a :: rest }) hg hsize T L Z LZ M LM (P1 :: P2 :: Ps)
    (fun P hP => by
      rcases List.mem_cons.mp hP with rfl | hP
      · exact L1
      · rcases List.mem_cons.mp hP with rfl | hP
        · exact L2
        · exact hL P hP) ⟨hlink1, hlink2, hlink⟩ (u0 := u0) (sen := sen) (self := a) hmsg (cell := freshCell P1.m.cls kX) (cellS := cellS)
    hcell (fun _ => by simp) (by simp) rfl rfl hsel0 hselF hcellS hneS hknownS (by rw [hkeep _ (hout' _)]; exact hu0) (by rw [hkeep _ (hout' _)]; exact hsen)
    (Takes.of_laid hk hord tyC (by rw [Y.causeType]; rfl)) (Takes.of_laid hk hord tyS (by rw [Y.stackType]; exact fits_refV_array _ u0)) (Takes.of_laid hk hord tyP (by rw [Y.suppType]; exact fits_refV_object _ sen))
    (Takes.of_laid hk hord tyM (by rw [Y.msgType]; exact fits_refV_object _ ⟨msg, hmsg⟩)) Y.objLocals hskip htr [] hd6
    (by have h9 : Ps.length = 1 := hlen
        simp only [List.length_cons, h9]; omega) (by
        have h9 : Ps.length = 1 := hlen
        simp only [List.length_cons, h9]; exact hRl)
  obtain ⟨hwalk, hrun, hended, hWU, hsame⟩ := X₂.athrowLeaves hexec (g := { g with stack := .ref a :: rest, pc := g.pc + 3 }) hg hlocked hentered hout (a := a) (rest := rest) rfl hd9 hlocks
  have hlt : a < ((W.setVm vm₁).setVm vm₂).heap.size := (Array.getElem?_eq_some_iff.mp hcell).1
  have hU := heapAt_setCell_self (s := (W.setVm vm₁).setVm vm₂) (plainBareV T.toThrowableT (freshCell P1.m.cls kX) a u0 sen msg) hlt
  refine ⟨_, st1 _ (fun acts => by rw [doInvoke_state]; exact st2 _ hwalk), hrun, hended, hWU, hsame.weaken (fun y hy hlt' => ?_) (Nat.le_refl _) (Nat.le_refl _), _, hU, rfl, rfl⟩
  rcases List.mem_append.mp hy with h1 | h1
  · exact h1
  · exfalso
    have hb : y.base = a := by
      simp only [List.mem_cons, List.not_mem_nil, or_false] at h1
      rcases h1 with rfl | rfl | rfl | rfl | rfl <;> rfl
    rw [hb] at hlt'
    exact Nat.not_lt.mpr hnew hlt'
end
def z_atS (own : String) (ic : Nat) : List Cond := (z_own own ic).filter vx_no
section
variable {p : Program} {l : Launch} {e : Env} {R : Room} {s : State} {m : MethodId} {args : Array Value} {below : List Frame} {meth : Method} {c : Code} {H : Heap} {locs : List Loc} {cells slots : Nat} {Q : State → Prop}
variable {mc ms : Nat} {free : Addr → Prop} {A0 A1 : Nat → Prop} {H0 : Heap} {a : Array Value} {ls : Array Slot} {st0 rest : List Value}
variable {Qc : Array Value → State → Outcome → State → Prop} {XC : String → State → State → Prop}
theorem z_throwS {cc : ByteArray} {pc : Nat} (hexec : p.tables.exec = Jvm.exec) (hb : c.code = cc) (hl : l.stackTraces = false) {own text : String} {ik is ic mc ms sa : Nat} {A : Nat → Prop}
    (hown : s.vm.findClass own = some m.cls)
    (hk : (Cond.classLink own ik z_NS).before args s = true) (hini : (Cond.initialized z_NS).before args s = true) (hstr : vk_R own is text sa s) (hat : ∀ w ∈ z_atS own ic, w.before args s = true)
    (hgood : ∀ w ∈ Cond.classLink own ik z_NS :: Cond.initialized z_NS :: z_atS own ic, vx_ot w = true)
    (hU : vx_Zq Bundle.tN "UNASSIGNED_STACK" Bundle.steD A s s.heap) (hN : vx_Zq Bundle.tN "SUPPRESSED_SENTINEL" Bundle.listD A s s.heap) (hS : va_S A s.heap H locs) (hsize : ls.size = c.maxLocals)
    (d0 : decode cc pc = .ok (.new ik, 3)) (d3 : decode cc (pc + 3) = .ok (.dup, 1)) (d4 : decode cc (pc + 4) = .ok (.ldc is, 2)) (d6 : decode cc (pc + 6) = .ok (.invokespecial ic, 3)) (d9 : decode cc (pc + 9) = .ok (.athrow, 1))
    (hout : ∀ x ∈ c.exceptionTable.toList, covers x (pc + 9) = false)
    (hRframes : 5 < R.frames) (hRlocals : (rest.map fun v => v.category).sum + 82 ≤ R.locals) (hRcells : cells + 1 ≤ R.cells) (hRslots : slots + 6 ≤ R.slots) (hlocks : meth.locks = false)
    (hx : ∀ t : State, s.vm.Alike t.vm → H.size ≤ t.heap.size → (∀ q : Nat, q < H.size → t.heap[q]? = H[q]?) → XC z_NS s t)
    (hf : ∀ z ∈ locs, free z.base) (hc : cells + 1 ≤ mc) (hs : slots + 6 ≤ ms) :
    W p l e R s m args below meth c H locs cells slots (vx_MQ below Qc XC args s mc ms free) (F0 m pc ls rest) := by
  intro T hT X
  have htr : e.platform.stackTraces = false := (show e.platform.stackTraces = l.stackTraces by rw [X.admits.platform]).trans hl
  have Y := vx_rebase X (R' := { frames := R.frames, locals := R.locals, cells := 1, slots := 6 }) (Nat.le_refl _) (Nat.le_refl _) hRcells hRslots
  obtain ⟨s', hA⟩ : ∃ z, z = (T.setVm s.vm).setFrames (.invoking m args :: below) := ⟨_, rfl⟩
  rw [← hA] at Y
  have hvm : s'.vm = s.vm := by rw [hA]; rfl
  have hhp : s'.heap = H := by rw [hA]; exact hT
  have hW0 : s.WarmedH s'.vm := by rw [hvm]; exact State.WarmedH.refl s
  have hat' : ∀ w ∈ z_atS own ic, w.before args s' = true := fun w hw => vx_ot_at hW0 hvm.symm (hgood w (List.mem_cons_of_mem _ (List.mem_cons_of_mem _ hw))) (hat w hw)
  have hk' : (Cond.classLink own ik z_NS).before args s' = true := vx_ot_at hW0 hvm.symm (hgood _ List.mem_cons_self) hk
  have hini' : (Cond.initialized z_NS).before args s' = true := vx_ot_at hW0 hvm.symm (hgood _ (List.mem_cons_of_mem _ List.mem_cons_self)) hini
  have hU' : vx_Zq Bundle.tN "UNASSIGNED_STACK" Bundle.steD A s' s'.heap := by rw [hhp]; exact vx_Zq.moved hW0.alike (hU.kept hS.2.1)
  have hN' : vx_Zq Bundle.tN "SUPPRESSED_SENTINEL" Bundle.listD A s' s'.heap := by rw [hhp]; exact vx_Zq.moved hW0.alike (hN.kept hS.2.1)
  have h : ∀ w ∈ z_own own ic, w.before args s' = true := vx_own hat' (vx_isRefq hU'.1) (vx_isRefq hN'.1) hU'.2.word hN'.2.word
  have hown' : s'.vm.findClass own = some m.cls := by rw [hvm]; exact hown
  have hins : (Cond.instantiable z_NS 6).before args s' = true := h _ (by simp [z_own])
  obtain ⟨vm₁, cX, kX, hfX, hkX, -, -, X₁, st1⟩ := Y.newCold hexec (own := own) (C := z_NS) (index := ik) (n := 6) hown' hk' hins hini'
    (g := F0 m pc ls rest) rfl (by rw [hb]; exact d0) (Nat.le_refl _) (Nat.le_refl _)
  generalize hT1 : (T.setVm vm₁).pushCell { cls := cX, slots := kX.instanceTypes.map defaultValue, vm := .none } = T1 at X₁ st1
  have hcat : (Value.ref T.heap.size).category = 1 := rfl
  have hcellA : T1.heap[T.heap.size]? = some (freshCell cX kX) := by rw [← hT1]; exact State.heap_pushCell_size _ _
  have d3' : decode c.code (pc + 3) = .ok (.dup, 1) := by rw [hb]; exact d3
  have d4' : decode c.code (pc + 4) = .ok (.ldc is, 2) := by rw [hb]; exact d4
  have hstr' : vk_R own is text sa s' := vk_R.warm hW0 hstr
  obtain ⟨U, hsteps, hrun, hend, hW, hsame, ce, hce, hOc, hOv⟩ := z_ctorThrow X₁ hexec htr (own := own) (ic := ic) hown' h (fun x hx => nomatch hx) hfX hkX hcellA (by rw [hhp, hT]; exact Nat.le_refl _) (msg := .ref sa) rfl
    (g := { method := m, pc := pc + 6, locals := ls, stack := .ref sa :: .ref T.heap.size :: .ref T.heap.size :: rest, locked := none }) rfl hsize rfl rfl (rest := rest) rfl
    (by rw [hb]; exact d6) (by rw [hb]; exact d9) hout hRframes (by simp only [List.map_cons, List.sum_cons, hcat]; omega) hlocks
  obtain ⟨f1, f2⟩ := vx_frame hsame
  rw [hhp] at f1 f2
  have hWs : s.WarmedH U.vm := State.WarmedH.trans hW0 hW
  have hcl : s.vm.findClass z_NS = some ce.cls := by
    rw [hOc, ← hvm]
    exact hfX
  have hall : s.sameButNew ({ U with vm := s.vm } : State) locs mc ms := by
    subst hA
    obtain ⟨e1, e2⟩ := hsame
    rw [State.setFrames_setFrames] at e1
    have h2 : (T.setVm s.vm).sameButNew ({ U with vm := s.vm } : State) [] (0 + 1) (0 + 6) := ⟨e1, e2⟩
    have h3 := X.same.trans h2
    rw [List.append_nil] at h3
    exact h3.mono hc hs
  refine ⟨U, ?_, .threw T.heap.size, hrun, hend, Or.inr ⟨T.heap.size, rfl, z_NS, ce, locs, hx U hWs.alike f1 (fun q hq => f2 q hq (fun z hz => nomatch hz)), hce, hOv, hcl, hWs, hall, hf⟩⟩
  refine st1 _ ?_
  show Steps p.tables e below (T1.setTop { method := m, pc := pc + 3, locals := ls, stack := .ref T.heap.size :: rest, locked := none }) _
  jvm_step X₁.here [X₁.here.top, hexec, d3', Value.category]
  exact X₁.ldcString hexec (own := own) (text := text) (index := is) (a := sa) hown' hstr'.1 hstr'.2
    (g := { method := m, pc := pc + 4, locals := ls, stack := .ref T.heap.size :: .ref T.heap.size :: rest, locked := none }) rfl d4' _ hsteps
end
end
section
/-! The rows that this claim's walks share: the worlds a contract speaks of, nest mates' words, athrow, a catch. -/
abbrev z_Cl : List vw_C := [(RX0, TX0, 3), (RX1, TX1, 4), (RX2, TX2, 9), (RX3, TX3, 3), (RX4, TX4, 4), (RX5, TX5, 19), (RX6, TX6, 6), (RX7, TX7, 12), (RX8, TX8, 6), (RX9, TX9, 5), (RX10, TX10, 14), (RX11, TX11, 30), (RX12, TX12, 10), (RX13, TX13, 8), (RX14, TX14, 40)]
/-- the words of nest mates that the walks use -/
def z_nests : List Cond := [.methodLinkNest RX6 38 yX4_init "LessonMaker", .methodLinkNest RX14 15 yX11_init "LessonMakerModel", .methodLinkNest RX14 39 yX12_init "LessonMakerModel",
  .fieldLinkNest RX14 168 "LessonMakerModel$Program" "functions" "I" "LessonMakerModel", .fieldLinkNest RX14 171 "LessonMakerModel$Program" "lines" "I" "LessonMakerModel", .fieldLinkNest RX14 174 "LessonMakerModel$Program" "items" "I" "LessonMakerModel",
  .fieldLinkNest RX14 82 "LessonMakerModel$Stop" "kind" "I" "LessonMakerModel", .fieldLinkNest RX14 85 "LessonMakerModel$Stop" "place" "I" "LessonMakerModel"]
/-- the words that 'throw new NoSuchElementException(text)' needs: the good ones, the others -/
def z_X : List Cond := (z_atS RX10 124).filter goodWord
def z_B : List Cond := [.declares (Bundle.initS "java/lang/RuntimeException"), .declares (Bundle.initS "java/lang/Exception"), .declares (Bundle.initS "java/lang/Throwable"), .castable "java/util/NoSuchElementException" "java/util/NoSuchElementException"]
theorem z_B_in : ∀ w ∈ (z_atS RX10 124).filter (fun w => !goodWord w), w ∈ z_B := by decide +kernel
theorem z_B_on : ∀ w ∈ z_B, w.onTables = true := by decide +kernel
theorem z_fl (l : Launch) (h : l.flags = flags0) : l.stackTraces = false := by
  unfold Launch.stackTraces
  rw [h]
  decide +kernel
def z_N (U : State) : Prop := (∀ w ∈ z_nests, va_Nw w U) ∧ va_AO "LessonMaker$Function" U ∧ va_AO "LessonMaker$Line" U ∧ (∃ a, vk_R RX14 152 "def" a U) ∧ (∃ a, vk_R RX10 122 "no such function" a U) ∧ (∃ a, vk_R RX10 206 "nothing such was said" a U) ∧ (∃ a, vk_R RX10 215 "nothing such was traced" a U) ∧ va_Nw (.castable RX13 RX13) U ∧ (∀ w ∈ z_B, va_Nw w U)
theorem z_N.warm {s U : State} (h : z_N s) (hW : s.WarmedH U.vm) : z_N U := by
  obtain ⟨h1, h2, h3, ⟨a4, h4⟩, ⟨a5, h5⟩, ⟨a6, h6⟩, ⟨a7, h7⟩, h8, h10⟩ := h
  refine ⟨fun w hw => ?_, va_AO.moved hW.alike h2, va_AO.moved hW.alike h3, ⟨a4, vk_R.warm hW h4⟩, ⟨a5, vk_R.warm hW h5⟩, ⟨a6, vk_R.warm hW h6⟩, ⟨a7, vk_R.warm hW h7⟩, va_Nw.warmC hW h8, fun w hw => ?_⟩
  rotate_left
  · have h9 := h10 w hw
    simp only [z_B, List.mem_cons, List.not_mem_nil, or_false] at hw
    rcases hw with rfl | rfl | rfl | rfl
    · exact va_Nw.warmD hW h9
    · exact va_Nw.warmD hW h9
    · exact va_Nw.warmD hW h9
    · exact va_Nw.warmC hW h9
  have h9 := h1 w hw
  simp only [z_nests, List.mem_cons, List.not_mem_nil, or_false] at hw
  rcases hw with rfl | rfl | rfl | rfl | rfl | rfl | rfl | rfl
  · exact va_Nw.warmM hW h9
  · exact va_Nw.warmM hW h9
  · exact va_Nw.warmM hW h9
  · exact va_Nw.warmF hW h9
  · exact va_Nw.warmF hW h9
  · exact va_Nw.warmF hW h9
  · exact va_Nw.warmF hW h9
  · exact va_Nw.warmF hW h9
theorem z_N.B {s : State} (h : z_N s) {args : Array Value} : ∀ w ∈ z_B, w.before args s = true := fun w hw => va_Nw.use (z_B_on w hw) (h.2.2.2.2.2.2.2.2 w hw)
theorem z_N.at {s : State} (h : z_N s) (k : Nat) {w : Cond} (hk : z_nests[k]? = some w) : va_Nw w s := h.1 w (List.mem_of_getElem? hk)
/-- a method's start: the cells ws, heap of size sz -/
def z_in (dC : Nat → ClassId) (dI : Nat → Nat → Nat) (ws : va_W) (tys : List (ClassId × FieldType)) (sz : Nat) (U : State) : Prop :=
  U.heap.size = sz ∧ va_P (dC, dI) z_Cl ws U.heap ∧ va_K (dC, dI) z_Cl tys U ∧ va_D (fun _ => True) ws ∧ z_N U
/-- a method's end: the cells ws -/
def z_out (dC : Nat → ClassId) (dI : Nat → Nat → Nat) (A : Nat → Prop) (ws : va_W) (tys : List (ClassId × FieldType)) (t : State) : Prop :=
  va_P (dC, dI) z_Cl ws t.heap ∧ va_K (dC, dI) z_Cl tys t ∧ va_D A ws
theorem z_blind {av : List Value} {dC : Nat → ClassId} {dI : Nat → Nat → Nat} {ws : va_W} {tys : List (ClassId × FieldType)} {sz : Nat} : FrameBlind (va_Pc av (z_in dC dI ws tys sz)) := fun a U g mk q => by
  obtain ⟨q0, q1, qP, qK, qD, qN⟩ := q
  exact ⟨q0, q1, qP, va_K.moved (u := U) (U := U.calling g mk a) (Vm.Alike.refl U.vm) qK, qD, qN.warm (State.WarmedH.refl U)⟩
theorem z_pre {av : List Value} {dC : Nat → ClassId} {dI : Nat → Nat → Nat} {ws : va_W} {tys : List (ClassId × FieldType)} {A : Nat → Prop} {s : State} {H : Heap} (hP : va_P (dC, dI) z_Cl ws H) (hK : va_K (dC, dI) z_Cl tys s) (hD : va_D A ws) (hN : z_N s) :
    ∀ U : State, U.heap = H → s.WarmedH U.vm → va_Pc av (z_in dC dI ws tys H.size) av.toArray U := fun U hU hW => ⟨rfl, by rw [hU], by rw [hU]; exact hP, va_K.moved hW.alike hK, hD.weaken (fun _ _ _ _ => trivial), hN.warm hW⟩
theorem z_sw4 (x : Int32) : x = 0 ∨ x = 1 ∨ x = 2 ∨ x = 3 ∨ (x.toInt < 0 ∨ 3 < x.toInt) := by
  by_cases h0 : x.toInt = 0
  · exact Or.inl (Int32.toInt_inj.mp h0)
  by_cases h1 : x.toInt = 1
  · exact Or.inr (Or.inl (Int32.toInt_inj.mp h1))
  by_cases h2 : x.toInt = 2
  · exact Or.inr (Or.inr (Or.inl (Int32.toInt_inj.mp h2)))
  by_cases h3 : x.toInt = 3
  · exact Or.inr (Or.inr (Or.inr (Or.inl (Int32.toInt_inj.mp h3))))
  exact Or.inr (Or.inr (Or.inr (Or.inr (by omega))))
def z_count (w : Int32) : Int32 := if w = 0 ∨ w = 1 ∨ w = 2 ∨ w = 3 then 0 else -1
theorem z_count_out {w : Int32} (h : w.toInt < 0 ∨ 3 < w.toInt) : -1 = z_count w := by
  unfold z_count
  rw [if_neg]
  rintro (rfl | rfl | rfl | rfl) <;> revert h <;> decide
theorem z_zero {x : Int32} (h1 : ¬ x < 0) (h2 : x ≤ 0) : x = 0 := by
  apply Int32.toInt_inj.mp
  rw [Int32.lt_iff_toInt_lt] at h1
  rw [Int32.le_iff_toInt_le] at h2
  have e : (0 : Int32).toInt = 0 := by decide
  rw [e] at h1 h2 ⊢
  omega
theorem z_none {i : Nat} {P : Prop} (h : i < Int32.toNatClampNeg 0) : P := by
  have h9 : Int32.toNatClampNeg 0 = 0 := by decide
  omega
theorem z_io {i : Int32} {n : Nat} (h : ¬ (i < 0 ∨ n ≤ i.toNatClampNeg)) : vp_in i n := h
theorem z_df0 : ∀ j, j < 3 → defaultValue (tyX0 j) = vp_V [.null, .null, .int 0] j := by decide +kernel
theorem z_df1 : ∀ j, j < 4 → defaultValue (tyX1 j) = vp_V [.null, .null, .null, .int 0] j := by decide +kernel
theorem z_df2 : ∀ j, j < 9 → defaultValue (tyX2 j) = vp_V [.int 0, .int 0, .int 0, .int 0, .int 0, .int 0, .int 0, .int 0, .null] j := by decide +kernel
theorem z_df3 : ∀ j, j < 3 → defaultValue (tyX3 j) = vp_V [.null, .null, .int 0] j := by decide +kernel
theorem z_df4 : ∀ j, j < 4 → defaultValue (tyX4 j) = vp_V [.int 0, .int 0, .int 0, .int 0] j := by decide +kernel
theorem z_df5 : ∀ j, j < 19 → defaultValue (tyX5 j) = vp_V [.int 0, .int 0, .int 0, .int 0, .int 0, .int 0, .long 0, .null, .null, .null, .null, .int 0, .int 0, .int 0, .int 0, .int 0, .null, .null, .int 0] j := by decide +kernel
theorem z_df6 : ∀ j, j < 6 → defaultValue (tyX6 j) = vp_V [.null, .null, .null, .null, .int 0, .int 0] j := by decide +kernel
theorem z_df7 : ∀ j, j < 12 → defaultValue (tyX7 j) = vp_V [.int 0, .int 0, .int 0, .null, .null, .null, .int 0, .null, .null, .null, .null, .int 0] j := by decide +kernel
theorem z_df8 : ∀ j, j < 6 → defaultValue (tyX8 j) = vp_V [.null, .int 0, .null, .null, .null, .int 0] j := by decide +kernel
theorem z_df9 : ∀ j, j < 5 → defaultValue (tyX9 j) = vp_V [.null, .null, .int 0, .int 0, .int 0] j := by decide +kernel
theorem z_df10 : ∀ j, j < 14 → defaultValue (tyX10 j) = vp_V [.null, .int 0, .null, .null, .null, .null, .null, .null, .int 0, .null, .null, .null, .int 0, .int 0] j := by decide +kernel
theorem z_df11 : ∀ j, j < 30 → defaultValue (tyX11 j) = vp_V [.int 0, .int 0, .int 0, .int 0, .null, .null, .null, .null, .null, .null, .null, .null, .null, .null, .null, .null, .null, .null, .null, .null, .null, .null, .null, .null, .null, .null, .null, .null, .null, .null] j := by decide +kernel
theorem z_df12 : ∀ j, j < 10 → defaultValue (tyX12 j) = vp_V [.int 0, .int 0, .int 0, .int 0, .int 0, .int 0, .long 0, .null, .null, .null] j := by decide +kernel
theorem z_df13 : ∀ j, j < 8 → defaultValue (tyX13 j) = vp_V [.null, .null, .null, .null, .null, .int 0, .int 0, .int 0] j := by decide +kernel
theorem z_df14 : ∀ j, j < 40 → defaultValue (tyX14 j) = vp_V [.int 0, .int 0, .int 0, .int 0, .null, .null, .null, .int 0, .int 0, .null, .null, .int 0, .int 0, .int 0, .int 0, .int 0, .int 0, .int 0, .int 0, .int 0, .int 0, .long 0, .null, .null, .int 0, .null, .int 0, .int 0, .int 0, .int 0, .null, .null, .int 0, .int 0, .null, .null, .null, .null, .null, .null] j := by decide +kernel
/-- the search, at a row that takes the thing thrown: the row's class is noted in the tables -/
theorem z_go {Q : Handler → Pre} {E : CtlPost} {e : Env} {d : Bool} {acts : List Action} {s : State} {f : JFrame} {a : Addr} {x : ExceptionTableEntry} {t : List ExceptionTableEntry} {c : ClassId} {cell : Cell} (hx : covers x f.pc = true) (h0 : x.catchType ≠ 0)
    (hl : s.vm.ClassLinks e.platform f.method.cls x.catchType c) (hcell : s.heap[a]? = some cell) (hobj : ∀ k, cell.vm ≠ .statics k) (hk : ∃ k, s.vm.classes[cell.cls]? = some k) (hc : ∃ k, s.vm.classes[c]? = some k) (hfit : s.vm.assignable cell.cls c = true) :
    wp (findHandler.go f a (x :: t)) Q E e d acts s ↔ Q (.found x.handlerPc) d acts (s.setVm (s.vm.noted f.method.cls x.catchType (.cls c))) := by
  have hx' : (decide (x.startPc ≤ f.pc) && decide (f.pc < x.endPc)) = true := hx
  obtain ⟨ha, ht⟩ := (resolveClass_links e.toSetting hl).op (op := VmOp.resolveClass f.method.cls x.catchType) rfl
  have hal : s.vm.Alike (s.vm.noted f.method.cls x.catchType (.cls c)) := (Vm.Alike.refl s.vm).noted _ _ _
  obtain ⟨k1, hk1⟩ := hk
  obtain ⟨k2, hk2⟩ := hc
  obtain ⟨k3, hk3, -⟩ := hal.2.2 _ _ hk1
  obtain ⟨k4, hk4, -⟩ := hal.2.2 _ _ hk2
  have hf2 : (s.vm.noted f.method.cls x.catchType (.cls c)).assignable cell.cls c = true := by rw [hal.assignable]; exact hfit
  simp [findHandler.go, hx', h0, ha, ht, hcell, hobj, hk3, hk4, hf2, VmOp.dirties, VmOp.acts]
/-- the two static fields that a Throwable's making reads -/
def z_st (A : Nat → Prop) (U : State) (H : Heap) : Prop := vx_Zq Bundle.tN "UNASSIGNED_STACK" Bundle.steD A U H ∧ vx_Zq Bundle.tN "SUPPRESSED_SENTINEL" Bundle.listD A U H
def z_in2 (dC : Nat → ClassId) (dI : Nat → Nat → Nat) (ws : va_W) (tys : List (ClassId × FieldType)) (sz : Nat) (U : State) : Prop :=
  U.heap.size = sz ∧ va_P (dC, dI) z_Cl ws U.heap ∧ va_K (dC, dI) z_Cl tys U ∧ va_D (fun _ => True) ws ∧ z_N U ∧ z_st (va_A ws sz) U U.heap
theorem z_blind2 {av : List Value} {dC : Nat → ClassId} {dI : Nat → Nat → Nat} {ws : va_W} {tys : List (ClassId × FieldType)} {sz : Nat} : FrameBlind (va_Pc av (z_in2 dC dI ws tys sz)) := fun a U g mk q => by
  obtain ⟨q0, q1, qP, qK, qD, qN, qZ1, qZ2⟩ := q
  exact ⟨q0, q1, qP, va_K.moved (u := U) (U := U.calling g mk a) (Vm.Alike.refl U.vm) qK, qD, qN.warm (State.WarmedH.refl U), vx_Zq.moved (u := U) (U := U.calling g mk a) (Vm.Alike.refl U.vm) qZ1, vx_Zq.moved (u := U) (U := U.calling g mk a) (Vm.Alike.refl U.vm) qZ2⟩
theorem z_pre2 {av : List Value} {dC : Nat → ClassId} {dI : Nat → Nat → Nat} {ws : va_W} {tys : List (ClassId × FieldType)} {A : Nat → Prop} {s : State} {H : Heap} {locs : List Loc} (hP : va_P (dC, dI) z_Cl ws H) (hK : va_K (dC, dI) z_Cl tys s) (hD : va_D A ws) (hN : z_N s) (hZ : z_st A s s.heap) (hS : va_S A s.heap H locs) (hF : ∀ q, va_A ws H.size q → A q) :
    ∀ U : State, U.heap = H → s.WarmedH U.vm → va_Pc av (z_in2 dC dI ws tys H.size) av.toArray U := fun U hU hW => ⟨rfl, by rw [hU], by rw [hU]; exact hP, va_K.moved hW.alike hK, hD.weaken (fun _ _ _ _ => trivial), hN.warm hW,
      by rw [hU]; exact vx_Zq.moved hW.alike ((hZ.1.kept hS.2.1).narrow hF), by rw [hU]; exact vx_Zq.moved hW.alike ((hZ.2.kept hS.2.1).narrow hF)⟩
section ZW
variable {p : Program} {l : Launch} {e : Env} {R : Room} {s : State} {m : MethodId} {args : Array Value} {below : List Frame} {meth : Method} {c : Code} {H : Heap} {locs : List Loc} {cells slots : Nat} {Q : State → Prop} {cc : ByteArray} {pc : Nat} {ls : Array Slot} {rest : List Value}
theorem z_athrow (hexec : p.tables.exec = Jvm.exec) (hb : c.code = cc) {q : Addr} (hdg : decode cc pc = .ok (.athrow, 1)) (k : vx_W p l e R s m args below meth c H locs cells slots Q (F0 m pc ls rest) q) : W p l e R s m args below meth c H locs cells slots Q (F0 m pc ls (.ref q :: rest)) := by
  intro T hT X
  obtain ⟨t, a, b⟩ := k T hT X
  refine ⟨t, ?_, b⟩
  jvm_step X.here [X.here.top, hexec, hb, hdg, athrow.wp_sem]
  exact a
/-- caught by the first row x of this method's own table; its class may have been resolved or not -/
theorem z_catch {own name : String} {E : String} {ce : Cell} {q : Addr} (hown : s.vm.findClass own = some m.cls) (x : ExceptionTableEntry) (suf : List ExceptionTableEntry) (hsplit : c.exceptionTable.toList = x :: suf) (hx : covers x pc = true) (h0 : x.catchType ≠ 0)
    (hlink : (Cond.classLink own x.catchType name).before args s = true) (hcast : (Cond.castable E name).before args s = true) (hcell : H[q]? = some ce) (hv : ce.vm = .none) (hcl : s.vm.findClass E = some ce.cls)
    (kk : W p l e R s m args below meth c H locs cells slots Q (F0 m x.handlerPc ls [.ref q])) : vx_W p l e R s m args below meth c H locs cells slots Q (F0 m pc ls rest) q := by
  intro T hT X
  have hpl : e.platform.magicAccessors = ({} : Platform).magicAccessors := by rw [X.admits.platform]
  obtain ⟨c3, c4, hc3, hc4, hasg⟩ := Cond.castable_spec hcast
  cases Option.some.inj (hc3.symm.trans hcl)
  obtain ⟨c5, hc5, hcl5⟩ := Cond.classLink_spec hown hlink e.platform hpl
  cases Option.some.inj (hc4.symm.trans hc5)
  obtain ⟨dk, _, _, kt, hd, _, _, _, _, hkt, _, hopen⟩ := hcl5.here
  have hW' : s.WarmedH (T.vm.noted m.cls x.catchType (.cls c4)) := X.warmed.noted hd hopen (State.rightAt_cls hcl5)
  have hlT : T.vm.ClassLinks e.platform m.cls x.catchType c4 := X.warmed.classLinks hcl5
  have hal := X.warmed.alike
  obtain ⟨kt', hkt', -⟩ := hal.2.2 _ _ hkt
  have hfitT : T.vm.assignable ce.cls c4 = true := by rw [hal.assignable]; exact hasg
  obtain ⟨k1, hk1⟩ := Vm.classAt_of_assignable hfitT ⟨kt', hkt'⟩
  generalize hvm' : T.vm.noted m.cls x.catchType (.cls c4) = vm' at hW'
  obtain ⟨t, a1, b1⟩ := kk (T.setVm vm') hT (X.noted hW')
  refine ⟨t, ?_, b1⟩
  have hal2 : T.vm.Alike (T.vm.noted m.cls x.catchType (.cls c4)) := (Vm.Alike.refl T.vm).noted _ _ _
  have hfind : ∀ (Q9 : Handler → Pre) (E9 : CtlPost) (d9 : Bool) (acts : List Action), wp (findHandler (F0 m pc ls rest) q) Q9 E9 e d9 acts ((T.setTop (F0 m pc ls rest)).pushFrame (.throwing q)) ↔ Q9 (.found x.handlerPc) d9 acts (((T.setTop (F0 m pc ls rest)).pushFrame (.throwing q)).setVm vm') := by
    intro Q9 E9 d9 acts
    have hvmS : ((T.setTop (F0 m pc ls rest)).pushFrame (.throwing q)).vm = T.vm := Stand.throwing_vm T _ q
    have hhpS : ((T.setTop (F0 m pc ls rest)).pushFrame (.throwing q)).heap = T.heap := Stand.throwing_heap T _ q
    generalize (T.setTop (F0 m pc ls rest)).pushFrame (.throwing q) = S at hvmS hhpS ⊢
    rw [W.findHandler_eq (meth := meth) (code := c) (by rw [hvmS]; exact X.method') X.code, hsplit]
    have hk1S : ∃ k, S.vm.classes[ce.cls]? = some k := ⟨k1, by rw [hvmS]; exact hk1⟩
    have hk2S : ∃ k, S.vm.classes[c4]? = some k := ⟨kt', by rw [hvmS]; exact hkt'⟩
    rw [z_go (f := F0 m pc ls rest) (x := x) (c := c4) (cell := ce) hx h0 (by rw [hvmS]; exact hlT) (by rw [hhpS, hT]; exact hcell) (fun k h => by rw [hv] at h; cases h) hk1S hk2S (by rw [hvmS]; exact hfitT)]
    show Q9 (.found x.handlerPc) d9 acts (S.setVm (S.vm.noted m.cls x.catchType (.cls c4))) ↔ _
    rw [hvmS, hvm']
  obtain ⟨hgo, hw⟩ := At.throwing (g := F0 m pc ls rest) X.here q
  refine Steps.head hgo hw ?_
  rw [stepThread_throwing (frames_entered X.here.top _)]
  obtain ⟨g₀, hg⟩ := Option.isSome_iff_exists.mp X.here.top
  obtain ⟨r, hr⟩ := State.topJava?_eq_some.mp hg
  have hstep : (stepThrowing e ((T.setTop (F0 m pc ls rest)).pushFrame (.throwing q)) q (.java (F0 m pc ls rest) :: T.frames.tail)).Is ((((T.setTop (F0 m pc ls rest)).pushFrame (.throwing q)).setVm vm').setFrames (.java { F0 m pc ls rest with pc := x.handlerPc, stack := [.ref q] } :: T.frames.tail)) [] := by
    simp only [stepThrowing, searchFrame, vmDo]
    generalize hres : Sem.go _ e false [] _ = res
    obtain ⟨as, rfl, ha⟩ := Sem.eq_ok_of hres (a := Handler.found x.handlerPc) (s' := ((T.setTop (F0 m pc ls rest)).pushFrame (.throwing q)).setVm vm') (acts' := []) (by simp [hfind _ _ _ _])
    exact ⟨rfl, ha⟩
  rw [hstep.1]
  have hr' : (T.setVm vm').frames = .java g₀ :: r := hr
  rw [State.setTop_of_frames _ hr'] at a1
  have e1 : (((T.setTop (F0 m pc ls rest)).pushFrame (.throwing q)).setVm vm').setFrames (.java { F0 m pc ls rest with pc := x.handlerPc, stack := [.ref q] } :: T.frames.tail) = (T.setVm vm').setFrames (.java { F0 m pc ls rest with pc := x.handlerPc, stack := [.ref q] } :: r) := by
    rw [hr, List.tail_cons, State.pushFrame, State.setTop_of_frames _ hr, State.setFrames_setFrames]
    show ((T.setVm vm').setFrames _).setFrames _ = _
    rw [State.setFrames_setFrames]
  rw [e1]
  exact a1
end ZW
end
section
/-! part 02's rows of methods that throw, once more with the address of the thing thrown (made from them by mkvy.py) -/
def vy_T (XC : String → Addr → State → State → Prop) (st : State) (q : Addr) (t : State) (mc ms : Nat) (free : Addr → Prop) : Prop :=
  ∃ (E : String) (ce : Cell) (L : List Loc), XC E q st t ∧ t.heap[q]? = some ce ∧ ce.vm = .none ∧ st.vm.findClass E = some ce.cls ∧ st.WarmedH t.vm ∧ st.sameButNew ({ t with vm := st.vm } : State) L mc ms ∧ ∀ z ∈ L, free z.base
def vy_Q (Qc : Array Value → State → Outcome → State → Prop) (XC : String → Addr → State → State → Prop) (mc ms : Nat) (free : Addr → Prop) : Array Value → State → Outcome → State → Prop := fun a st o t =>
  (Qc a st o t ∧ ∃ L, FrameEnd st o t L mc ms ∧ ∀ q ∈ L, free q.base) ∨ ∃ q, o = .threw q ∧ vy_T XC st q t mc ms free
def vy_Met (l : Launch) (y : MethodName) (ws : List Cond) (rm : Room) (Pc : Array Value → State → Prop) (Qc : Array Value → State → Outcome → State → Prop) (XC : String → Addr → State → State → Prop) (mc ms : Nat) (free : Addr → Prop) : Prop :=
  MetFree l y (headSpec ws rm) Pc (fun _ _ _ _ _ => True) (vy_Q Qc XC mc ms free)
def vy_Post (XC : String → Addr → State → State → Prop) (mc ms : Nat) (free : Addr → Prop) : Pt → Array Value → Addr → Pt → Prop := fun A a q B =>
  ∃ (g : JFrame) (mk : MethodId) (t : State) (L : List Loc) (E : String) (ce : Cell), B.U.heap = t.heap ∧ B.U.vm = t.vm ∧ XC E q (A.U.calling g mk a) t ∧ t.heap[q]? = some ce ∧ ce.vm = .none ∧ A.U.vm.findClass E = some ce.cls ∧ B.locs = A.locs ++ L ∧ (∀ z ∈ L, free z.base) ∧ B.cells = A.cells + mc ∧ B.slots = A.slots + ms
def vy_Back (l : Launch) (R : Room) (p : Program) (e : Env) (below : List Frame) (s : State) (sargs : Array Value) (y : MethodName) (len W9 : Nat)
    (Pre : Pt → Array Value → Prop) (Post : Pt → Array Value → Option Value → Pt → Prop) (PostX : Pt → Array Value → Addr → Pt → Prop) : Prop :=
  ∀ (m : MethodId) (meth : Method) (c : Code) (A : Pt) (g : JFrame) (ig : Instr) (mk : MethodId) (a : Array Value),
    Stand p l e R s m sargs below meth c A.U A.locs A.cells A.slots → g.method = m → g.locals.size = c.maxLocals → decode c.code g.pc = .ok (ig, len) →
    2 * g.monitorRoom + (g.stack.map fun v => v.category).sum ≤ W9 → A.U.methodNamed? y = some mk → Pre A a →
    (∃ (v : Option Value) (B : Pt), Stand p l e R s m sargs below meth c B.U B.locs B.cells B.slots ∧ Post A a v B ∧
      Steps p.tables e below (doInvoke e (A.U.setTop g) [] mk a).1 (B.U.setTop { g with pc := g.pc + len, stack := v.toList ++ g.stack })) ∨
    (∃ (q : Addr) (B : Pt), Stand p l e R s m sargs below meth c B.U B.locs B.cells B.slots ∧ PostX A a q B ∧
      Steps p.tables e below (doInvoke e (A.U.setTop g) [] mk a).1 ((B.U.setTop g).pushFrame (.throwing q)))
section
variable {l : Launch} {R : Room} {p : Program} {e : Env} {below : List Frame} {s : State} {sargs : Array Value} {y : MethodName} {len W9 : Nat}
theorem vy_back {ws : List Cond} {rm : Room} {Pc : Array Value → State → Prop} {Qc : Array Value → State → Outcome → State → Prop} {XC : String → Addr → State → State → Prop} {mc ms : Nat} {free : Addr → Prop} {bytes : ByteArray} {maxL : Nat} {ret : Option FieldType}
    (hM : vy_Met l y ws rm Pc Qc XC mc ms free) (hblind : FrameBlind Pc) (hrc : rm.cells = mc) (hrs : rm.slots = ms)
    (hframes : rm.frames + 1 ≤ R.frames) (hlocals : W9 + (maxL + 11) + rm.locals ≤ R.locals)
    (hws : ∀ w ∈ ws, ∀ a' U, s.WarmedH U.vm → w.before a' U = true) (hcode : Cond.code y bytes maxL ret ∈ ws) (hinit : ∀ a' U, s.WarmedH U.vm → (Cond.initialized y.cls).before a' U = true) :
    vy_Back l R p e below s sargs y len W9 (PreOf R mc ms Pc) (PostOf Qc mc ms free) (vy_Post XC mc ms free) := by
  intro m meth c A g ig mk a X hg hsize hdg hW hn hp
  have h1 : (headSpec ws rm).pre.before a A.U = true := atoms_intro fun w hw => hws w hw _ _ X.warmed
  have h2 : (Cond.code y bytes maxL ret).before a A.U = true := hws _ hcode _ _ X.warmed
  have h3 : (Cond.initialized y.cls).before a A.U = true := hinit _ _ X.warmed
  have h4 : A.cells + (headSpec ws rm).room.cells ≤ R.cells := by rw [show (headSpec ws rm).room.cells = mc from hrc]; exact hp.1
  have h5 : A.slots + (headSpec ws rm).room.slots ≤ R.slots := by rw [show (headSpec ws rm).room.slots = ms from hrs]; exact hp.2.1
  have hPc : Pc a (A.U.calling g mk a) := hblind _ _ _ _ hp.2.2
  obtain ⟨U, Ls, c0, s0⟩ := A
  dsimp only [Pt.U, Pt.locs, Pt.cells, Pt.slots] at h1 h2 h3 h4 h5 X hn hPc ⊢
  obtain ⟨methY, cY, hmY, hcY, -, hlY, -, -, -, -⟩ := Cond.code_spec hn h2
  obtain ⟨kY, hkY, -⟩ := className_of_methodNamed hn
  have hinitY : kY.init = .initialized := Cond.initialized_spec (findClass_of_methodNamed hn) hkY h3
  have h : At U g.method c below := by rw [hg]; exact X.here
  have hlocals9 : W9 + (maxL + 11) + (headSpec ws rm).room.locals ≤ R.locals := hlocals
  have happ : (headSpec ws rm).appliesLoose y e.platform (U.calling g mk a) = true :=
    Spec.appliesLoose_calling (g := g) h hdg hn hkY hinitY
      (X.room_calling (g := g) (R' := (headSpec ws rm).room) hsize hmY hcY hframes (by rw [hlY]; omega) h4 h5) h1
  obtain ⟨mid, hmid⟩ := h.above
  have hfr : (U.setTop g).frames = (.java g :: mid) ++ below := by rw [State.frames_setTop' g h.top, hmid]; rfl
  obtain ⟨o, s₂, hsteps, -, hend, hq⟩ := Steps.callFree hM p X.admits X.cas X.clock (acts := []) hfr happ hPc trivial
  have hq' : vy_Q Qc XC mc ms free a (U.calling g mk a) o s₂ := hq
  rw [State.frames_setTop' g h.top] at hend
  obtain ⟨g₀, hg0⟩ := Option.isSome_iff_exists.mp h.top
  obtain ⟨r, hr⟩ := State.topJava?_eq_some.mp hg0
  have hr' : (({ U with heap := s₂.heap, slotsUsed := s₂.slotsUsed } : State).setVm s₂.vm).frames = .java g₀ :: r := hr
  rcases hq' with ⟨hqc, L, hfe, hL⟩ | ⟨q, rfl, E, ce, L, hx, hce, hcv, hcl, hW₂, hsm, hL⟩
  · obtain ⟨⟨v, rfl⟩, hW₂, e2, q2, q3, q4, q5, q6⟩ := id hfe
    have e3 : s₂ = ({ (U.calling g mk a).setFrames s₂.frames with heap := s₂.heap, slotsUsed := s₂.slotsUsed } : State).setVm s₂.vm := by
      have : s₂ = ({ s₂ with vm := (U.calling g mk a).vm } : State).setVm s₂.vm := rfl
      rw [e2] at this
      exact this
    obtain ⟨c₂, i₂, len₂, hc₂, hd₂, hf₂⟩ := hend
    have hW' : U.WarmedH s₂.vm := hW₂
    have hcc : c₂ = c := by
      have h1 : s₂.code? g.method = U.code? g.method := by
        rw [State.code?_eq, State.code?_eq, hW'.alike.method?]
      exact Option.some.inj (hc₂.symm.trans (h1.trans h.code))
    subst hcc
    have hlen : len₂ = len := by rw [hdg] at hd₂; cases hd₂; rfl
    subst hlen
    have hs₂ : s₂ = (({ U with heap := s₂.heap, slotsUsed := s₂.slotsUsed } : State).setVm s₂.vm).setTop { g with pc := g.pc + len₂, stack := v.toList ++ g.stack } := by
      refine e3.trans ?_
      rw [hf₂, State.calling_eq h.top, State.setFrames_setFrames, State.setTop_of_frames _ hr', hr]
      rfl
    have hsame : U.sameButNew ({ U with heap := s₂.heap, slotsUsed := s₂.slotsUsed } : State) L mc ms := by
      refine ⟨?_, q2, q3, q4, q5, q6⟩
      obtain ⟨t, ht, -⟩ := State.frames_cons hr
      show ({ U with heap := s₂.heap, slotsUsed := s₂.slotsUsed } : State) = { U.setFrames U.frames with heap := s₂.heap, slotsUsed := s₂.slotsUsed }
      rw [State.setFrames_self ht]
    subst hg
    refine Or.inl ⟨v, ⟨(({ U with heap := s₂.heap, slotsUsed := s₂.slotsUsed } : State).setVm s₂.vm), Ls ++ L, c0 + mc, s0 + ms⟩,
      ⟨X.admits, X.cas, X.clock, X.frames, X.room, X.hears, X.method, X.code, (X.here.setHeapUsed s₂.heap s₂.slotsUsed).setVm hW'.alike, X.tail, State.WarmedH.trans X.warmed hW', X.limits, X.bytes, X.same.trans (hsame.setVm s.vm)⟩,
      ⟨g, mk, s₂, L, rfl, rfl, hqc, rfl, hL, rfl, rfl⟩, ?_⟩
    show Steps p.tables e below _ ((({ U with heap := s₂.heap, slotsUsed := s₂.slotsUsed } : State).setVm s₂.vm).setTop { g with pc := g.pc + len₂, stack := v.toList ++ g.stack })
    rw [← hs₂]
    exact hsteps
  · obtain ⟨e2, q2, q3, q4, q5, q6⟩ := id hsm
    have e3 : s₂ = ({ (U.calling g mk a).setFrames s₂.frames with heap := s₂.heap, slotsUsed := s₂.slotsUsed } : State).setVm s₂.vm := by
      have : s₂ = ({ s₂ with vm := (U.calling g mk a).vm } : State).setVm s₂.vm := rfl
      rw [e2] at this
      exact this
    have hf₂ : s₂.frames = .throwing q :: .java g :: U.frames.tail := hend
    have hW' : U.WarmedH s₂.vm := hW₂
    have hs₂ : s₂ = ((({ U with heap := s₂.heap, slotsUsed := s₂.slotsUsed } : State).setVm s₂.vm).setTop g).pushFrame (.throwing q) := by
      refine e3.trans ?_
      rw [hf₂, State.calling_eq h.top, State.setFrames_setFrames, State.pushFrame, State.frames_setTop _ hr', State.setTop_of_frames _ hr', State.setFrames_setFrames, hr]
      rfl
    have hsame : U.sameButNew ({ U with heap := s₂.heap, slotsUsed := s₂.slotsUsed } : State) L mc ms := by
      refine ⟨?_, q2, q3, q4, q5, q6⟩
      obtain ⟨t, ht, -⟩ := State.frames_cons hr
      show ({ U with heap := s₂.heap, slotsUsed := s₂.slotsUsed } : State) = { U.setFrames U.frames with heap := s₂.heap, slotsUsed := s₂.slotsUsed }
      rw [State.setFrames_self ht]
    subst hg
    refine Or.inr ⟨q, ⟨(({ U with heap := s₂.heap, slotsUsed := s₂.slotsUsed } : State).setVm s₂.vm), Ls ++ L, c0 + mc, s0 + ms⟩,
      ⟨X.admits, X.cas, X.clock, X.frames, X.room, X.hears, X.method, X.code, (X.here.setHeapUsed s₂.heap s₂.slotsUsed).setVm hW'.alike, X.tail, State.WarmedH.trans X.warmed hW', X.limits, X.bytes, X.same.trans (hsame.setVm s.vm)⟩,
      ⟨g, mk, s₂, L, E, ce, rfl, rfl, hx, hce, hcv, hcl, rfl, hL, rfl, rfl⟩, ?_⟩
    show Steps p.tables e below _ (((({ U with heap := s₂.heap, slotsUsed := s₂.slotsUsed } : State).setVm s₂.vm).setTop g).pushFrame (.throwing q))
    rw [← hs₂]
    exact hsteps
end
section
variable {p : Program} {l : Launch} {e : Env} {R : Room} {s : State} {m : MethodId} {args : Array Value} {below : List Frame} {meth : Method} {c : Code} {T : State} {locs : List Loc} {cells slots : Nat}
theorem vy_callV (X : Stand p l e R s m args below meth c T locs cells slots) (hexec : p.tables.exec = Jvm.exec) {own C : String} {index : Nat} {y : MethodName} {bytes : ByteArray} {maxL : Nat} {ret : Option FieldType}
    (hown : s.vm.findClass own = some m.cls) (hlink : (Cond.methodLink own index y).before args s = true) (hinst : (Cond.instanceMethod y).before args s = true) (hsel : (Cond.selects C y y).before args s = true)
    (hcode : (Cond.code y bytes maxL ret).before args s = true) (hy : y.cls ≠ "java/lang/invoke/MethodHandle" ∧ y.cls ≠ "java/lang/invoke/VarHandle")
    {W9 : Nat} {Pre : Pt → Array Value → Prop} {Post : Pt → Array Value → Option Value → Pt → Prop} {PostX : Pt → Array Value → Addr → Pt → Prop} (hK : vy_Back l R p e below s args y 3 W9 Pre Post PostX)
    {b : Addr} {cellB : Cell} (hcell : T.heap[b]? = some cellB) (hobj : cellB.vm.isStatics = false) (hcls : s.vm.findClass C = some cellB.cls)
    {g : JFrame} (hg : g.method = m) (hsize : g.locals.size = c.maxLocals) {argsL rest : List Value} (hlen : ∀ sig, parseMethodDescriptor y.desc = some sig → argsL.length = sig.parameters.length)
    (hstack : g.stack = argsL.reverse ++ .ref b :: rest) (hW : 2 * g.monitorRoom + (rest.map fun v => v.category).sum ≤ W9) (hdg : decode c.code g.pc = .ok (.invokevirtual index, 3))
    (hpre : ∀ vm₁, s.WarmedH vm₁ → Pre ⟨T.setVm vm₁, locs, cells, slots⟩ (Value.ref b :: argsL).toArray) :
    (∃ (v : Option Value) (vm₁ : Vm) (B : Pt), s.WarmedH vm₁ ∧ Stand p l e R s m args below meth c B.U B.locs B.cells B.slots ∧ Post ⟨T.setVm vm₁, locs, cells, slots⟩ (Value.ref b :: argsL).toArray v B ∧
      ∀ target, Steps p.tables e below (B.U.setTop { g with pc := g.pc + 3, stack := v.toList ++ rest }) target → Steps p.tables e below (T.setTop g) target) ∨
    (∃ (q : Addr) (vm₁ : Vm) (B : Pt), s.WarmedH vm₁ ∧ Stand p l e R s m args below meth c B.U B.locs B.cells B.slots ∧ PostX ⟨T.setVm vm₁, locs, cells, slots⟩ (Value.ref b :: argsL).toArray q B ∧
      Steps p.tables e below (T.setTop g) ((B.U.setTop { g with stack := rest }).pushFrame (.throwing q))) := by
  obtain ⟨mk, methM, hnamed, hmethM, hstM, habM⟩ := Cond.instanceMethod_spec hinst
  obtain ⟨methM', cM, hmethM', -, -, -, -, -, -, hsigM⟩ := Cond.code_spec hnamed hcode
  cases hmethM.symm.trans hmethM'
  obtain ⟨c2, r2, m2, q1, q2, q3, q4, kP, hkP, hkPi⟩ := Cond.selects_spec hsel
  cases hcls.symm.trans q1
  cases (State.methodFound?_of_named hnamed hy).symm.trans q2
  cases hnamed.symm.trans q3
  have hselP : selectMethod e.platform s.vm cellB.cls mk = .method mk := by rw [Launch.admits_selectMethod X.admits]; exact q4
  obtain ⟨vm₁, X₁, hstep₁⟩ := X.invokevirtual hexec hown hlink hnamed hmethM hstM hkP hkPi hy (a := b) (cell := cellB) hcell
    (fun z h => by rw [h] at hobj; cases hobj) hselP hmethM habM hkP hkPi (g := g) hg (argsL := argsL) (rest := rest) (hlen _ hsigM) hstack hdg
  rcases hK m meth c ⟨T.setVm vm₁, locs, cells, slots⟩ { g with stack := rest } (.invokevirtual index) mk (Value.ref b :: argsL).toArray X₁ hg hsize hdg hW (X₁.named hnamed) (hpre vm₁ X₁.warmed) with ⟨v, B, X', hpost, hsteps⟩ | ⟨q, B, X', hpost, hsteps⟩
  · exact Or.inl ⟨v, vm₁, B, X₁.warmed, X', hpost, fun target h => hstep₁ _ fun acts => by rw [doInvoke_state]; exact hsteps.trans h⟩
  · exact Or.inr ⟨q, vm₁, B, X₁.warmed, X', hpost, hstep₁ _ fun acts => by rw [doInvoke_state]; exact hsteps⟩
end
def vy_Run (p : Program) (l : Launch) (e : Env) (R : Room) (s : State) (m : MethodId) (args : Array Value) (below : List Frame) (meth : Method) (c : Code) (H : Heap) (locs : List Loc) (cells slots mc ms : Nat) (g : JFrame) (rest : List Value) (Qa : State → Outcome → State → Prop) (XC : String → Addr → State → State → Prop) (free : Addr → Prop) : Prop :=
  ∀ T : State, T.heap = H → Stand p l e R s m args below meth c T locs cells slots →
    (∃ (v : Option Value) (st₀ t T' : State) (L : List Loc), st₀.heap = H ∧ Stand p l e R s m args below meth c T' (locs ++ L) (cells + mc) (slots + ms) ∧ (∀ q ∈ L, free q.base) ∧ T'.heap = t.heap ∧ T'.vm = t.vm ∧ Qa st₀ (.returned v) t ∧
      Goes p e below T g T' { g with pc := g.pc + 3, stack := v.toList ++ rest }) ∨
    (∃ (q : Addr) (st₀ t T' : State) (L : List Loc) (E : String) (ce : Cell), st₀.heap = H ∧ Stand p l e R s m args below meth c T' (locs ++ L) (cells + mc) (slots + ms) ∧ (∀ z ∈ L, free z.base) ∧ T'.heap = t.heap ∧ T'.vm = t.vm ∧ XC E q st₀ t ∧ t.heap[q]? = some ce ∧ ce.vm = .none ∧ s.vm.findClass E = some ce.cls ∧
      Steps p.tables e below (T.setTop g) ((T'.setTop { g with stack := rest }).pushFrame (.throwing q)))
def vy_X {S : Type} (px : S → Prop) (B : String → Addr → S → State → Prop) (A : Nat → Prop) : String → Addr → State → State → Prop := fun E q st t => ∃ u : S, px u ∧ B E q u t ∧ va_F A st t
section
variable {p : Program} {l : Launch} {e : Env} {R : Room} {s : State} {m : MethodId} {args : Array Value} {below : List Frame} {meth : Method} {c : Code} {H : Heap} {locs : List Loc} {cells slots : Nat}
variable {y : MethodName} {bytes cc : ByteArray} {maxL nL mc ms n index : Nat} {ret : Option FieldType} {ws : List Cond} {rm : Room} {Pc : Array Value → State → Prop} {Qc : Array Value → State → Outcome → State → Prop} {XC : String → Addr → State → State → Prop} {free : Addr → Prop} {Ts : List Cond} {own C : String} {b : Addr} {As rest : List Value} {g : JFrame}
theorem vy_callBack (cb : CallB R s args own index y bytes maxL ret ws rm mc ms n) (hM : vy_Met l y ws rm Pc Qc XC mc ms free) (hbl : FrameBlind Pc) : vy_Back l R p e below s args y 3 8 (PreOf R mc ms Pc) (PostOf Qc mc ms free) (vy_Post XC mc ms free) := by
  obtain ⟨hrc, hrs, hfr, hlo, hws, hcw, -, hini, -⟩ := cb
  exact vy_back (bytes := bytes) (maxL := maxL) (ret := ret) hM hbl hrc hrs hfr hlo hws hcw (fun a' U hW => word_at hW (Or.inl (by first | rfl | simp [Cond.onTables, Cond.keeps, Cond.steady])) hini)
end
section
variable {p : Program} {l : Launch} {e : Env} {R : Room} {s : State} {m : MethodId} {args : Array Value} {below : List Frame} {meth : Method} {c : Code} {H : Heap} {locs : List Loc} {cells slots : Nat}
variable {y : MethodName} {bytes cc : ByteArray} {maxL nL mc ms n index : Nat} {ret : Option FieldType} {ws : List Cond} {rm : Room} {Pc : Array Value → State → Prop} {Qc : Array Value → State → Outcome → State → Prop} {XC : String → Addr → State → State → Prop} {free : Addr → Prop} {Ts : List Cond} {own C : String} {b : Addr} {As rest : List Value} {g : JFrame}
theorem vy_runV (S : CallFix p m c cc nL s args Ts own) (hM : vy_Met l y ws rm Pc Qc XC mc ms free) (cw : CallW R s args own C index y bytes maxL ret ws rm mc ms n) (hp : PreV s H C b Pc As)
    (hg : g.method = m) (hn : As.length = n) (hsize : g.locals.size = nL) (hstack : g.stack = As.reverse ++ .ref b :: rest) (hW : 2 * g.monitorRoom + (rest.map fun v => v.category).sum ≤ 8) (hdg : decode cc g.pc = .ok (.invokevirtual index, 3)) (hf : cells + mc ≤ R.cells ∧ slots + ms ≤ R.slots) :
    vy_Run p l e R s m args below meth c H locs cells slots mc ms g rest (Qc (Value.ref b :: As).toArray) XC free := by
  have hK : vy_Back l R p e below s args y 3 8 (PreOf R mc ms Pc) (PostOf Qc mc ms free) (vy_Post XC mc ms free) := vy_callBack cw.1 hM hp.1
  obtain ⟨⟨-, -, -, -, -, -, hcode, -, hy, hlen, hl⟩, hin, hse⟩ := cw
  obtain ⟨hx, hb, hml, ho, -⟩ := S
  obtain ⟨-, ⟨cellB, hcB, hoB, hclB⟩, hPc⟩ := hp
  intro T hT X
  rcases vy_callV X hx (C := C) (bytes := bytes) (maxL := maxL) (ret := ret) ho hl hin hse hcode hy hK (by rw [hT]; exact hcB) hoB hclB hg (hsize.trans hml.symm) (argsL := As) (rest := rest) (fun sig h => hn.trans (hlen sig h)) hstack hW (by rw [hb]; exact hdg)
    (fun vm₁ hW₁ => ⟨hf.1, hf.2, hPc (T.setVm vm₁) hT hW₁⟩) with ⟨v, vm₁, ⟨U', l2, c2, s2⟩, hW₁, X', ⟨g', mk, t, L, e1, e2, hq, h1, hL, h2, h3⟩, st⟩ | ⟨q, vm₁, ⟨U', l2, c2, s2⟩, hW₁, X', ⟨g', mk, t, L, E, ce, e1, e2, hq, hce, hcv, hcl, h1, hL, h2, h3⟩, st⟩
  · dsimp only [Pt.U, Pt.locs, Pt.cells, Pt.slots] at X' e1 e2 h1 h2 h3 st
    subst h1; subst h2; subst h3
    exact Or.inl ⟨v, (T.setVm vm₁).calling g' mk (Value.ref b :: As).toArray, t, U', L, hT, X', hL, e1, e2, hq, st⟩
  · dsimp only [Pt.U, Pt.locs, Pt.cells, Pt.slots] at X' e1 e2 h1 h2 h3 st hcl
    subst h1; subst h2; subst h3
    exact Or.inr ⟨q, (T.setVm vm₁).calling g' mk (Value.ref b :: As).toArray, t, U', L, E, ce, hT, X', hL, e1, e2, hq, hce, hcv, vx_cls hW₁ hcl, st⟩
end
section
variable {p : Program} {l : Launch} {e : Env} {R : Room} {s : State} {m : MethodId} {args : Array Value} {below : List Frame} {meth : Method} {c : Code} {H : Heap} {locs : List Loc} {cells slots : Nat} {Q : State → Prop}
variable {mc ms : Nat} {free : Addr → Prop} {A0 A1 : Nat → Prop} {H0 : Heap} {a : Array Value} {pc : Nat} {ls : Array Slot} {st0 rest : List Value}
theorem vy_callv {S SX : Type} {post : S → Prop} {px : SX → Prop} {B : S → State → Prop} {BX : String → Addr → SX → State → Prop} {AX : Nat → Prop} (hr : vy_Run p l e R s m args below meth c H locs cells slots mc ms (F0 m pc ls st0) rest (va_Qv post B A1 a) (vy_X px BX AX) free) (hS : va_S A0 H0 H locs) (hA : ∀ q, q < H.size → A1 q → A0 q) (hf : ∀ q, free q → A0 q) (hAX : ∀ q, q < H.size → AX q → A0 q)
    (kx : ∀ (E : String) (ce : Cell) (q9 : Addr) (u : SX) (t : State) (H1 : Heap) (locs1 : List Loc), t.heap = H1 → s.vm.Alike t.vm → px u → BX E q9 u t → H.size ≤ H1.size → (∀ q : Nat, q < H.size → ¬ AX q → H1[q]? = H[q]?) → va_S A0 H0 H1 locs1 → H1[q9]? = some ce → ce.vm = .none → s.vm.findClass E = some ce.cls → vx_W p l e R s m args below meth c H1 locs1 (cells + mc) (slots + ms) Q (F0 m pc ls rest) q9)
    (kk : ∀ (u : S) (t : State) (H1 : Heap) (locs1 : List Loc), t.heap = H1 → s.vm.Alike t.vm → post u → B u t → H.size ≤ H1.size → (∀ q : Nat, q < H.size → ¬ A1 q → H1[q]? = H[q]?) → va_S A0 H0 H1 locs1 → W p l e R s m args below meth c H1 locs1 (cells + mc) (slots + ms) Q (F0 m (pc + 3) ls (rest))) : W p l e R s m args below meth c H locs cells slots Q (F0 m pc ls st0) := by
  intro T hT X
  rcases hr T hT X with ⟨v, st₀, t, T', L, h0, X', hL, e1, e2, ⟨⟨u, hv, hp, hb⟩, hF⟩, st⟩ | ⟨q, st₀, t, T', L, E, ce, h0, X', hL, e1, e2, ⟨u, hp, hb, hF⟩, hce, hcv, hcl, st⟩
  · cases hv
    obtain ⟨k1, k2, k3⟩ := vx_keep h0 e1 hS hA hf hL hF
    obtain ⟨t2, a1, b1⟩ := kk u t T'.heap (locs ++ L) e1.symm (by rw [← e2]; exact X'.warmed.alike) hp hb k1 k2 k3 T' rfl X'
    exact ⟨t2, st t2 a1, b1⟩
  · obtain ⟨k1, k2, k3⟩ := vx_keep h0 e1 hS hAX hf hL hF
    obtain ⟨t2, a1, b1⟩ := kx E ce q u t T'.heap (locs ++ L) e1.symm (by rw [← e2]; exact X'.warmed.alike) hp hb k1 k2 k3 (by rw [e1]; exact hce) hcv hcl T' rfl X'
    exact ⟨t2, st.trans a1, b1⟩
end
section
variable {p : Program} {l : Launch} {e : Env} {R : Room} {s : State} {m : MethodId} {args : Array Value} {below : List Frame} {meth : Method} {c : Code} {H : Heap} {locs : List Loc} {cells slots : Nat} {Q : State → Prop}
variable {mc ms : Nat} {free : Addr → Prop} {A0 A1 : Nat → Prop} {H0 : Heap} {a : Array Value} {ls : Array Slot} {st0 rest : List Value}
variable {Qc : Array Value → State → Outcome → State → Prop} {XC : String → Addr → State → State → Prop}
def vy_MQ (below : List Frame) (Qc : Array Value → State → Outcome → State → Prop) (XC : String → Addr → State → State → Prop) (a : Array Value) (s : State) (mc ms : Nat) (free : Addr → Prop) : State → Prop := fun t =>
  ∃ o, t.status = .running ∧ Ended t below o ∧ vy_Q Qc XC mc ms free a s o t
end
section
variable {p : Program} {l : Launch} {e : Env} {R : Room} {s : State} {m : MethodId} {args : Array Value} {below : List Frame} {meth : Method} {c : Code} {H : Heap} {locs : List Loc} {cells slots : Nat} {Q : State → Prop}
variable {mc ms : Nat} {free : Addr → Prop} {A0 A1 : Nat → Prop} {H0 : Heap} {a : Array Value} {ls : Array Slot} {st0 rest : List Value}
variable {Qc : Array Value → State → Outcome → State → Prop} {XC : String → Addr → State → State → Prop}
theorem vy_out {pc : Nat} {E : String} {ce : Cell} {q : Addr} {mc ms : Nat} (hout : ∀ x ∈ c.exceptionTable.toList, covers x pc = false) (hlocks : meth.locks = false) (hcell : H[q]? = some ce) (hv : ce.vm = .none) (hcl : s.vm.findClass E = some ce.cls)
    (hx : ∀ t : State, t.heap = H → s.vm.Alike t.vm → XC E q s t) (hf : ∀ z ∈ locs, free z.base) (hc : cells ≤ mc) (hs : slots ≤ ms) :
    vx_W p l e R s m args below meth c H locs cells slots (vy_MQ below Qc XC args s mc ms free) (F0 m pc ls rest) q := by
  intro T hT X
  obtain ⟨st1, hrun, hend, hW, hsm⟩ := X.leaveThrown q (g := F0 m pc ls rest) rfl rfl rfl hout hlocks
  have hcell9 : (T.setFrames (.throwing q :: below)).heap[q]? = some ce := by
    show T.heap[q]? = some ce
    rw [hT]; exact hcell
  exact ⟨_, st1, .threw q, hrun, hend, Or.inr ⟨q, rfl, E, ce, locs, hx _ hT hW.alike, hcell9, hv, hcl, hW, hsm.mono hc hs, hf⟩⟩
end
section
variable {l : Launch}
theorem vy_ofW {y : MethodName} {ws ws' : List Cond} {rm : Room} {Pc : Array Value → State → Prop} {Qc : Array Value → State → Outcome → State → Prop} {XC : String → Addr → State → State → Prop} {mc ms : Nat} {free : Addr → Prop} {cc : ByteArray} {maxL : Nat} {ret : Option FieldType}
    (hy : plainName y.cls = true) (hw : ws = Cond.code y cc maxL ret :: ws')
    (body : ∀ p e s m args below meth c s₁, BodyLoose p l y (headSpec ws rm) cc maxL ret e s m args below meth c s₁ → c.maxLocals = maxL → (∀ x ∈ c.exceptionTable.toList, False) → Pc args s →
      W p l e (headSpec ws rm).room s m args below meth c s.heap [] 0 0 (vy_MQ below Qc XC args s mc ms free) (entryFrame m args maxL)) : vy_Met l y ws rm Pc Qc XC mc ms free := by
  refine MetFree.of_bodyS (code := cc) (maxLocals := maxL) (ret := ret) hy ?_ ?_
  · intro args s m h hn
    obtain ⟨meth, c, h1, h2, h3, h4, h5, h6, -, -⟩ := Cond.code_spec hn (atoms_spec (ws := ws) h _ (by rw [hw]; exact List.mem_cons_self))
    exact ⟨meth, c, h1, h2, h3, h4, h5, h6⟩
  · intro p e s m args below meth c s₁ B hml hP _
    have hh0 : s₁.heap = s.heap := by rw [B.state]; rfl
    have ht : ∀ x ∈ c.exceptionTable.toList, False := by
      obtain ⟨meth9, c9, h1, h2, -, -, -, -, h7, -⟩ := Cond.code_spec B.named (atoms_spec (ws := ws) B.pre _ (by rw [hw]; exact List.mem_cons_self))
      cases Option.some.inj (h1.symm.trans B.method)
      cases Option.some.inj (h2.symm.trans (Stand.of_body B).code)
      intro x hx
      rw [Array.isEmpty_iff.mp h7] at hx
      cases hx
    obtain ⟨t, a1, o, b1, b2, b3⟩ := body p e s m args below meth c s₁ B hml ht hP s₁ hh0 (Stand.of_body B)
    exact ⟨t, o, a1, b1, b2, b3⟩
end
end
section
/-! the constructors above LessonMakerModel$Stop: names and decode rows -/
def RT : String := "java/lang/Throwable"
def RE : String := "java/lang/Exception"
def RR : String := "java/lang/RuntimeException"
abbrev cT_init : ByteArray := prog_26_method_5_code
abbrev cE_init : ByteArray := prog_17_method_5_code
abbrev cR_init : ByteArray := prog_21_method_5_code
def yT_init : MethodName := ⟨RT, "<init>", "(Ljava/lang/String;Ljava/lang/Throwable;ZZ)V"⟩
def yE_init : MethodName := ⟨RE, "<init>", "(Ljava/lang/String;Ljava/lang/Throwable;ZZ)V"⟩
def yR_init : MethodName := ⟨RR, "<init>", "(Ljava/lang/String;Ljava/lang/Throwable;ZZ)V"⟩
theorem dT_init_0 : decode cT_init 0 = .ok (.aload_n 0, 1) := by decide +kernel
theorem dT_init_1 : decode cT_init 1 = .ok (.invokespecial 1, 3) := by decide +kernel
theorem dT_init_4 : decode cT_init 4 = .ok (.aload_n 0, 1) := by decide +kernel
theorem dT_init_5 : decode cT_init 5 = .ok (.aload_n 0, 1) := by decide +kernel
theorem dT_init_6 : decode cT_init 6 = .ok (.putfield 7, 3) := by decide +kernel
theorem dT_init_9 : decode cT_init 9 = .ok (.aload_n 0, 1) := by decide +kernel
theorem dT_init_10 : decode cT_init 10 = .ok (.getstatic 13, 3) := by decide +kernel
theorem dT_init_13 : decode cT_init 13 = .ok (.putfield 17, 3) := by decide +kernel
theorem dT_init_16 : decode cT_init 16 = .ok (.aload_n 0, 1) := by decide +kernel
theorem dT_init_17 : decode cT_init 17 = .ok (.getstatic 20, 3) := by decide +kernel
theorem dT_init_20 : decode cT_init 20 = .ok (.putfield 24, 3) := by decide +kernel
theorem dT_init_23 : decode cT_init 23 = .ok (.iload 4, 2) := by decide +kernel
theorem dT_init_25 : decode cT_init 25 = .ok (.ifCond .eq 11, 3) := by decide +kernel
theorem dT_init_36 : decode cT_init 36 = .ok (.aload_n 0, 1) := by decide +kernel
theorem dT_init_37 : decode cT_init 37 = .ok (.aconst_null, 1) := by decide +kernel
theorem dT_init_38 : decode cT_init 38 = .ok (.putfield 17, 3) := by decide +kernel
theorem dT_init_41 : decode cT_init 41 = .ok (.aload_n 0, 1) := by decide +kernel
theorem dT_init_42 : decode cT_init 42 = .ok (.aload_n 1, 1) := by decide +kernel
theorem dT_init_43 : decode cT_init 43 = .ok (.putfield 31, 3) := by decide +kernel
theorem dT_init_46 : decode cT_init 46 = .ok (.aload_n 0, 1) := by decide +kernel
theorem dT_init_47 : decode cT_init 47 = .ok (.aload_n 2, 1) := by decide +kernel
theorem dT_init_48 : decode cT_init 48 = .ok (.putfield 7, 3) := by decide +kernel
theorem dT_init_51 : decode cT_init 51 = .ok (.iload_n 3, 1) := by decide +kernel
theorem dT_init_52 : decode cT_init 52 = .ok (.ifCond .ne 8, 3) := by decide +kernel
theorem dT_init_55 : decode cT_init 55 = .ok (.aload_n 0, 1) := by decide +kernel
theorem dT_init_56 : decode cT_init 56 = .ok (.aconst_null, 1) := by decide +kernel
theorem dT_init_57 : decode cT_init 57 = .ok (.putfield 24, 3) := by decide +kernel
theorem dT_init_60 : decode cT_init 60 = .ok (.return_, 1) := by decide +kernel
theorem dE_init_0 : decode cE_init 0 = .ok (.aload_n 0, 1) := by decide +kernel
theorem dE_init_1 : decode cE_init 1 = .ok (.aload_n 1, 1) := by decide +kernel
theorem dE_init_2 : decode cE_init 2 = .ok (.aload_n 2, 1) := by decide +kernel
theorem dE_init_3 : decode cE_init 3 = .ok (.iload_n 3, 1) := by decide +kernel
theorem dE_init_4 : decode cE_init 4 = .ok (.iload 4, 2) := by decide +kernel
theorem dE_init_6 : decode cE_init 6 = .ok (.invokespecial 16, 3) := by decide +kernel
theorem dE_init_9 : decode cE_init 9 = .ok (.return_, 1) := by decide +kernel
theorem dR_init_0 : decode cR_init 0 = .ok (.aload_n 0, 1) := by decide +kernel
theorem dR_init_1 : decode cR_init 1 = .ok (.aload_n 1, 1) := by decide +kernel
theorem dR_init_2 : decode cR_init 2 = .ok (.aload_n 2, 1) := by decide +kernel
theorem dR_init_3 : decode cR_init 3 = .ok (.iload_n 3, 1) := by decide +kernel
theorem dR_init_4 : decode cR_init 4 = .ok (.iload 4, 2) := by decide +kernel
theorem dR_init_6 : decode cR_init 6 = .ok (.invokespecial 16, 3) := by decide +kernel
theorem dR_init_9 : decode cR_init 9 = .ok (.return_, 1) := by decide +kernel
end
section
/-! THE CLAIM OUT OF ONE WALK OF THE LAW'S BODY. Your part is whole_start (and what it stands on); all else here is the same for every law, but numbers. -/
def R_law : String := "LessonMakerLaw"
def lw_P (b : Addr) (xs : List Int32) (args : Array Value) (s : State) : Prop := args = #[.ref b] ∧ s.IntsAt b xs ∧ xs.length ≤ 6 ∧ (Jvm.Cond.and given_1 narrow_1).before args s = true
def lw_Q (_ : Array Value) (s : State) (o : Outcome) (t : State) : Prop := o = .returned (some (.int 1)) ∧ Framed s o t [] 600002 7302231
def lw_Z (below : List Frame) (a : Array Value) (s : State) : State → Prop := fun t => ∃ o, t.status = .running ∧ Ended t below o ∧ lw_Q a s o t
/-- the law's own end, with 1 on the stack, nothing written that was there before, its room as the claim has it -/
theorem lw_ret {p : Program} {l : Launch} {e : Env} {s : State} {m : MethodId} {below : List Frame} {meth : Method} {c : Code} {b : Nat} (hx : p.tables.exec = Jvm.exec) (hb : c.code = code) (hr : meth.sig.returnType = ret) (hlocks : meth.locks = false) {pc : Nat} {H : Heap} {ls : Array Slot} (hdg : decode code pc = .ok (.ireturn, 1)) : W p l e room_1 s m #[Value.ref b] below meth c H [] 600002 7302231 (lw_Z below #[Value.ref b] s) (F0 m pc ls [.int 1]) := by
  intro T hT X
  obtain ⟨fs, hret, hrun, hended, hW, hframe⟩ := X.leave (v := some (.int 1)) (hlocks := hlocks) (fun h => by rw [hr] at h; cases h)
  have hmeth' : T.vm.method? m = some meth := X.method'
  refine ⟨T.setFrames fs, ?_, .returned (some (.int 1)), hrun, hended, rfl, ⟨_, rfl⟩, hW, hframe⟩
  jvm_step X.here [X.here.top, hx, hb, hdg, hmeth', hr, ret, narrow_b1]
  (try refine ⟨rfl, ?_⟩); (try refine ⟨rfl, ?_⟩)
  first | (intro acts; rw [hret _ acts rfl rfl rfl]) | rw [hret _ _ rfl rfl rfl]
  exact Steps.refl _
/-- what holds at the law's entry: the machine, the code, the tables' words (any of lw_tbl by 'hts w (by decide +kernel)'), the script of L ints xs at the cell b, what the Statement gives of the start (any of its parts by flat_of_before) -/
def lw_At (p : Program) (s : State) (m : MethodId) (meth : Method) (c : Code) (b L : Nat) (xs : Nat → Int32) : Prop :=
  p.tables.exec = Jvm.exec ∧ c.code = code ∧ meth.sig.returnType = ret ∧ c.maxLocals = 7 ∧ s.vm.findClass R_law = some m.cls ∧ (∀ w ∈ lw_tbl, w.before #[Value.ref b] s = true) ∧ va_X b L xs s s.heap ∧ b < s.heap.size ∧ meth.locks = false ∧ (Jvm.Cond.and given_1 narrow_1).before #[Value.ref b] s = true
-- ===== YOUR PART BEGINS =====
/-- YOUR PART: from the entry, for every script of at most 6 ints, the law comes to its end with true -/
theorem z_mem {big ws : List Cond} (ps : List Nat) (hp : ws = ps.filterMap (fun i => big[i]?)) : ∀ w ∈ ws, w ∈ big := fun w hw => by
  rw [hp] at hw
  obtain ⟨i, -, hi⟩ := List.mem_filterMap.mp hw
  exact List.mem_of_getElem? hi
theorem z_32 {j : Nat} (h : j < 32) : j = 0 ∨ j = 1 ∨ j = 2 ∨ j = 3 ∨ j = 4 ∨ j = 5 ∨ j = 6 ∨ j = 7 ∨ j = 8 ∨ j = 9 ∨ j = 10 ∨ j = 11 ∨ j = 12 ∨ j = 13 ∨ j = 14 ∨ j = 15 ∨ j = 16 ∨ j = 17 ∨ j = 18 ∨ j = 19 ∨ j = 20 ∨ j = 21 ∨ j = 22 ∨ j = 23 ∨ j = 24 ∨ j = 25 ∨ j = 26 ∨ j = 27 ∨ j = 28 ∨ j = 29 ∨ j = 30 ∨ j = 31 := by omega
theorem z_lt6 : ∀ L : Nat, L < 6 → Int32.ofNat L - 6 < 0 := by decide
theorem z_ex {own C : String} {k : Nat} {args : Array Value} {s : State} (h : (Cond.exactly (.string own k) C).before args s = true) : ∃ a, (Term.string own k).eval args s none [] s = some (.ref a) := by
  obtain ⟨a, _, _, _, h1, -⟩ := Cond.exactly_spec h
  exact ⟨a, h1⟩
theorem z_nests_in : ∀ w ∈ z_nests, w ∈ lw_tbl := z_mem [241, 1199, 1353, 1204, 1205, 1207, 1343, 1344] (by decide +kernel)
theorem z_nests_on : ∀ w ∈ z_nests, w.onTables = true := by decide +kernel
theorem z_B_tbl : ∀ w ∈ z_B, w ∈ lw_tbl := z_mem [1093, 1095, 1097, 1091] (by decide +kernel)
theorem z_N0 {b : Nat} {s : State} (hts : ∀ w ∈ lw_tbl, w.before #[Value.ref b] s = true) (hgv : (Jvm.Cond.and given_1 narrow_1).before #[Value.ref b] s = true) : z_N s :=
  ⟨fun w h => va_Nw.of (z_nests_on w h) (hts w (z_nests_in w h)), va_AO.of (hts (.arrayOver (.object "LessonMaker$Function")) (List.mem_of_getElem? (i := 188) (by decide +kernel))), va_AO.of (hts (.arrayOver (.object "LessonMaker$Line")) (List.mem_of_getElem? (i := 239) (by decide +kernel))),
    by
      obtain ⟨a, h9⟩ := z_ex (flat_of_before _ hgv (.exactly (.string "LessonMakerModel" 152) "java/lang/String") (by decide +kernel))
      exact ⟨a, vk_R.of (hts (.stringRef RX14 152 "def") (List.mem_of_getElem? (i := 1554) (by decide +kernel))) h9⟩,
    by
      obtain ⟨a, h9⟩ := z_ex (flat_of_before _ hgv (.exactly (.string "LessonMaker" 122) "java/lang/String") (by decide +kernel))
      exact ⟨a, vk_R.of (hts (.stringRef RX10 122 "no such function") (List.mem_of_getElem? (i := 1129) (by decide +kernel))) h9⟩,
    by
      obtain ⟨a, h9⟩ := z_ex (flat_of_before _ hgv (.exactly (.string "LessonMaker" 206) "java/lang/String") (by decide +kernel))
      exact ⟨a, vk_R.of (hts (.stringRef RX10 206 "nothing such was said") (List.mem_of_getElem? (i := 1168) (by decide +kernel))) h9⟩,
    by
      obtain ⟨a, h9⟩ := z_ex (flat_of_before _ hgv (.exactly (.string "LessonMaker" 215) "java/lang/String") (by decide +kernel))
      exact ⟨a, vk_R.of (hts (.stringRef RX10 215 "nothing such was traced") (List.mem_of_getElem? (i := 1185) (by decide +kernel))) h9⟩, va_Nw.of rfl (hts (.castable RX13 RX13) (List.mem_of_getElem? (i := 1324) (by decide +kernel))), fun w h => va_Nw.of (z_B_on w h) (hts w (z_B_tbl w h))⟩
theorem z_st0 {b : Nat} {s : State} {A : Nat → Prop} (hts : ∀ w ∈ lw_tbl, w.before #[Value.ref b] s = true) (hgv : (Jvm.Cond.and given_1 narrow_1).before #[Value.ref b] s = true) (hA : ∀ a : Nat, a < s.heap.size → ¬ A a) : z_st A s s.heap :=
  ⟨vx_Zqof (hts (.laysStatic "java/lang/Throwable" "UNASSIGNED_STACK" "[Ljava/lang/StackTraceElement;") (List.mem_of_getElem? (i := 1116) (by decide +kernel))) (hts (.initialized "java/lang/Throwable") (List.mem_of_getElem? (i := 107) (by decide +kernel))) (flat_of_before _ hgv (.isRef (.static "java/lang/Throwable" "UNASSIGNED_STACK" "[Ljava/lang/StackTraceElement;")) (by decide +kernel)) hA,
    vx_Zqof (hts (.laysStatic "java/lang/Throwable" "SUPPRESSED_SENTINEL" "Ljava/util/List;") (List.mem_of_getElem? (i := 1118) (by decide +kernel))) (hts (.initialized "java/lang/Throwable") (List.mem_of_getElem? (i := 107) (by decide +kernel))) (flat_of_before _ hgv (.isRef (.static "java/lang/Throwable" "SUPPRESSED_SENTINEL" "Ljava/util/List;")) (by decide +kernel)) hA⟩
def z_c0 : List Cond := [.initialized RL, .classLink RL 8 RX10, .instantiable RX10 14, .initialized RX10, .methodLink RX10 1 objectInit, .instanceMethod objectInit, .code objectInit ⟨#[0xb1]⟩ 1 none, .arrayClass .byte, .fieldLink RX10 9 "LessonMaker" "tape" "[B", .classLink RX10 13 RX6, .instantiable RX6 6, .initialized RX6, .methodLink RX6 3 objectInit, .classLink RX6 9 RX8, .instantiable RX8 6, .initialized RX8, .methodLink RX8 3 objectInit, .fieldLink RX8 9 "LessonMaker$Tokens" "text" "[B", .arrayClass .int, .fieldLink RX8 15 "LessonMaker$Tokens" "kinds" "[I", .fieldLink RX8 19 "LessonMaker$Tokens" "places" "[I", .fieldLink RX8 22 "LessonMaker$Tokens" "widths" "[I", .code yX8_init cX8_init 1 none, .methodLink RX6 11 yX8_init, .instanceMethod yX8_init, .fieldLink RX6 12 "LessonMaker$Program" "tokens" "LLessonMaker$Tokens;", .classLink RX6 18 RX1, .instantiable RX1 4, .initialized RX1, .methodLink RX1 3 objectInit, .fieldLink RX1 11 "LessonMaker$Code" "acts" "[I", .fieldLink RX1 15 "LessonMaker$Code" "numbers" "[I", .fieldLink RX1 18 "LessonMaker$Code" "lines" "[I", .code yX1_init cX1_init 1 none, .methodLink RX6 20 yX1_init, .instanceMethod yX1_init, .fieldLink RX6 21 "LessonMaker$Program" "code" "LLessonMaker$Code;", .classLink RX6 25 RX2, .fieldLink RX6 27 "LessonMaker$Program" "functions" "[LLessonMaker$Function;", .instantiable RX2 9]
set_option maxRecDepth 20000 in
theorem z_c0_in : ∀ w ∈ z_c0, w ∈ lw_tbl := z_mem [93, 121, 122, 94, 126, 127, 128, 162, 470, 129, 130, 95, 134, 135, 136, 96, 140, 141, 163, 143, 145, 146, 139, 137, 138, 262, 164, 165, 97, 169, 170, 172, 174, 168, 166, 167, 266, 187, 269, 189] (by decide +kernel)
def z_c1 : List Cond := [.initialized RX2, .methodLink RX2 1 objectInit, .fieldLink RX2 9 "LessonMaker$Function" "places" "[I", .code yX2_init cX2_init 1 none, .methodLink RX6 31 yX2_init, .instanceMethod yX2_init, .classLink RX6 32 RX4, .fieldLink RX6 34 "LessonMaker$Program" "lines" "[LLessonMaker$Line;", .instantiable RX4 4, .initialized RX4, .methodLink RX4 1 objectInit, .code yX4_init cX4_init 1 none, .instanceMethod yX4_init, .code yX6_init cX6_init 2 none, .methodLink RX10 15 yX6_init, .instanceMethod yX6_init, .fieldLink RX10 16 "LessonMaker" "now" "LLessonMaker$Program;", .fieldLink RX10 20 "LessonMaker" "spare" "LLessonMaker$Program;", .classLink RX10 23 RX7, .instantiable RX7 12, .initialized RX7, .methodLink RX7 3 objectInit, .fieldLink RX7 11 "LessonMaker$Reader" "callNames" "[I", .fieldLink RX7 15 "LessonMaker$Reader" "callSums" "[I", .fieldLink RX7 18 "LessonMaker$Reader" "callActs" "[I", .fieldLink RX7 21 "LessonMaker$Reader" "callers" "[I", .code yX7_init cX7_init 1 none, .methodLink RX10 25 yX7_init, .instanceMethod yX7_init, .fieldLink RX10 26 "LessonMaker" "reader" "LLessonMaker$Reader;", .classLink RX10 30 RX5, .instantiable RX5 19, .initialized RX5, .methodLink RX5 5 objectInit, .fieldLink RX5 11 "LessonMaker$Machine" "said" "[I", .fieldLink RX5 15 "LessonMaker$Machine" "trace" "[I", .fieldLink RX5 18 "LessonMaker$Machine" "places" "[I", .fieldLink RX5 21 "LessonMaker$Machine" "backs" "[I", .fieldLink RX5 24 "LessonMaker$Machine" "stack" "[I", .code yX5_init cX5_init 1 none]
set_option maxRecDepth 20000 in
theorem z_c1_in : ∀ w ∈ z_c1, w ∈ lw_tbl := z_mem [98, 193, 218, 192, 190, 191, 238, 275, 240, 99, 244, 243, 242, 133, 131, 132, 472, 473, 298, 299, 100, 303, 312, 313, 314, 315, 302, 300, 301, 474, 342, 343, 101, 347, 362, 363, 364, 371, 372, 346] (by decide +kernel)
def z_c2 : List Cond := [.methodLink RX10 32 yX5_init, .instanceMethod yX5_init, .fieldLink RX10 33 "LessonMaker" "latest" "LLessonMaker$Machine;", .fieldLink RX10 37 "LessonMaker" "truth" "LLessonMaker$Machine;", .fieldLink RX10 40 "LessonMaker" "trial" "LLessonMaker$Machine;", .classLink RX10 43 RX0, .instantiable RX0 3, .initialized RX0, .methodLink RX0 5 objectInit, .fieldLink RX0 11 "LessonMaker$Chapters" "best" "[I", .fieldLink RX0 17 "LessonMaker$Chapters" "order" "[I", .code yX0_init cX0_init 1 none, .methodLink RX10 45 yX0_init, .instanceMethod yX0_init, .fieldLink RX10 46 "LessonMaker" "chapters" "LLessonMaker$Chapters;", .classLink RX10 50 RX9, .instantiable RX9 5, .initialized RX9, .methodLink RX9 3 objectInit, .arrayClass .long, .fieldLink RX9 11 "LessonMaker$Told" "covers" "[J", .fieldLink RX9 15 "LessonMaker$Told" "chosen" "[I", .fieldLink RX9 19 "LessonMaker$Told" "chosenOf" "I", .code yX9_init cX9_init 1 none, .methodLink RX10 52 yX9_init, .instanceMethod yX9_init, .fieldLink RX10 53 "LessonMaker" "told" "LLessonMaker$Told;", .classLink RX10 57 RX3, .instantiable RX3 3, .initialized RX3, .methodLink RX3 3 objectInit, .fieldLink RX3 11 "LessonMaker$Growth" "states" "[I", .fieldLink RX3 17 "LessonMaker$Growth" "reaches" "[I", .code yX3_init cX3_init 1 none, .methodLink RX10 59 yX3_init, .instanceMethod yX3_init, .fieldLink RX10 60 "LessonMaker" "growth" "LLessonMaker$Growth;", .code yX10_init cX10_init 1 none, .methodLink RL 22 yX10_init, .instanceMethod yX10_init]
set_option maxRecDepth 20000 in
theorem z_c2_in : ∀ w ∈ z_c2, w ∈ lw_tbl := z_mem [344, 345, 475, 476, 477, 413, 414, 102, 418, 419, 420, 417, 415, 416, 479, 429, 430, 103, 434, 452, 435, 436, 438, 433, 431, 432, 480, 453, 454, 104, 458, 459, 460, 457, 455, 456, 481, 125, 123, 124] (by decide +kernel)
def z_c3 : List Cond := [.classLink RL 23 RX14, .instantiable RX14 40, .initialized RX14, .methodLink RX14 1 objectInit, .fieldLink RX14 9 "LessonMakerModel" "where" "I", .classLink RX14 13 RX11, .instantiable RX11 30, .initialized RX11, .methodLink RX11 3 objectInit, .fieldLink RX11 9 "LessonMakerModel$Program" "name" "[J", .fieldLink RX11 15 "LessonMakerModel$Program" "nameSize" "[I", .fieldLink RX11 19 "LessonMakerModel$Program" "has" "[I", .fieldLink RX11 22 "LessonMakerModel$Program" "first" "[I", .fieldLink RX11 25 "LessonMakerModel$Program" "many" "[I", .fieldLink RX11 28 "LessonMakerModel$Program" "calls" "[I", .fieldLink RX11 31 "LessonMakerModel$Program" "textFrom" "[I", .fieldLink RX11 34 "LessonMakerModel$Program" "textTo" "[I", .fieldLink RX11 37 "LessonMakerModel$Program" "place" "[I", .fieldLink RX11 40 "LessonMakerModel$Program" "kind" "[I", .fieldLink RX11 43 "LessonMakerModel$Program" "function" "[I", .fieldLink RX11 46 "LessonMakerModel$Program" "at" "[I", .fieldLink RX11 49 "LessonMakerModel$Program" "within" "[I", .fieldLink RX11 52 "LessonMakerModel$Program" "to" "[I", .fieldLink RX11 55 "LessonMakerModel$Program" "next" "[I", .fieldLink RX11 58 "LessonMakerModel$Program" "around" "[I", .fieldLink RX11 61 "LessonMakerModel$Program" "body" "[I", .fieldLink RX11 64 "LessonMakerModel$Program" "other" "[I", .fieldLink RX11 67 "LessonMakerModel$Program" "from" "[I", .fieldLink RX11 70 "LessonMakerModel$Program" "end" "[I", .fieldLink RX11 73 "LessonMakerModel$Program" "sign" "[I", .fieldLink RX11 76 "LessonMakerModel$Program" "value" "[I", .fieldLink RX11 79 "LessonMakerModel$Program" "many2" "[I", .fieldLink RX11 82 "LessonMakerModel$Program" "spot" "[I", .fieldLink RX11 85 "LessonMakerModel$Program" "called" "[J", .fieldLink RX11 88 "LessonMakerModel$Program" "text" "[B", .code yX11_init cX11_init 1 none, .instanceMethod yX11_init, .fieldLink RX14 16 "LessonMakerModel" "p" "LLessonMakerModel$Program;", .fieldLink RX14 20 "LessonMakerModel" "past" "LLessonMakerModel$Program;", .fieldLink RX14 23 "LessonMakerModel" "spare" "LLessonMakerModel$Program;"]
set_option maxRecDepth 20000 in
theorem z_c3_in : ∀ w ∈ z_c3, w ∈ lw_tbl := z_mem [1191, 1192, 105, 1196, 1393, 1197, 1198, 106, 1202, 1209, 1211, 1213, 1215, 1217, 1219, 1221, 1223, 1225, 1227, 1229, 1231, 1233, 1235, 1237, 1239, 1241, 1243, 1245, 1247, 1249, 1251, 1253, 1255, 1257, 1259, 1201, 1200, 1395, 1396, 1397] (by decide +kernel)
def z_c4 : List Cond := [.classLink RX14 26 RX13, .instantiable RX13 8, .initialized RX13, .methodLink RT 1 objectInit, .fieldLink RT 7 "java/lang/Throwable" "cause" "Ljava/lang/Throwable;", .fieldLink RT 13 "java/lang/Throwable" "UNASSIGNED_STACK" "[Ljava/lang/StackTraceElement;", .fieldLink RT 17 "java/lang/Throwable" "stackTrace" "[Ljava/lang/StackTraceElement;", .fieldLink RT 20 "java/lang/Throwable" "SUPPRESSED_SENTINEL" "Ljava/util/List;", .fieldLink RT 24 "java/lang/Throwable" "suppressedExceptions" "Ljava/util/List;", .fieldLink RT 31 "java/lang/Throwable" "detailMessage" "Ljava/lang/String;", .code yT_init cT_init 5 none, .initialized RT, .methodLink RE 16 yT_init, .instanceMethod yT_init, .code yE_init cE_init 5 none, .initialized RE, .methodLink RR 16 yE_init, .instanceMethod yE_init, .code yR_init cR_init 5 none, .initialized RR, .methodLink RX13 1 yR_init, .instanceMethod yR_init, .code yX13_init cX13_init 1 none, .methodLink RX14 28 yX13_init, .instanceMethod yX13_init, .fieldLink RX14 29 "LessonMakerModel" "stop" "LLessonMakerModel$Stop;", .fieldLink RX14 33 "LessonMakerModel" "tape" "[B", .classLink RX14 37 RX12, .instantiable RX12 10, .initialized RX12, .methodLink RX12 3 objectInit, .fieldLink RX12 9 "LessonMakerModel$Run" "said" "[I", .fieldLink RX12 15 "LessonMakerModel$Run" "trace" "[I", .fieldLink RX12 18 "LessonMakerModel$Run" "places" "[I", .code yX12_init cX12_init 1 none, .instanceMethod yX12_init, .fieldLink RX14 40 "LessonMakerModel" "latest" "LLessonMakerModel$Run;", .fieldLink RX14 44 "LessonMakerModel" "work" "LLessonMakerModel$Run;", .fieldLink RX14 47 "LessonMakerModel" "pile" "[I", .fieldLink RX14 51 "LessonMakerModel" "true1" "[I"]
set_option maxRecDepth 20000 in
theorem z_c4_in : ∀ w ∈ z_c4, w ∈ lw_tbl := z_mem [1322, 1323, 110, 1114, 1144, 1115, 1145, 1117, 1146, 1143, 1342, 107, 1340, 1341, 1339, 108, 1337, 1338, 1336, 109, 1334, 1335, 1333, 1331, 1332, 1400, 1401, 1351, 1352, 111, 1356, 1364, 1366, 1368, 1355, 1354, 1413, 1414, 1416, 1421] (by decide +kernel)
def z_c5 : List Cond := [.fieldLink RX14 54 "LessonMakerModel" "least" "[I", .fieldLink RX14 57 "LessonMakerModel" "runOf" "[I", .fieldLink RX14 60 "LessonMakerModel" "runX" "[I", .fieldLink RX14 63 "LessonMakerModel" "runY" "[I", .fieldLink RX14 66 "LessonMakerModel" "runZ" "[I", .fieldLink RX14 69 "LessonMakerModel" "picked" "[I", .fieldLink RX14 72 "LessonMakerModel" "shows" "[J", .code yX14_init cX14_init 1 none, .methodLink RL 25 yX14_init, .instanceMethod yX14_init, .fieldLink RX10 64 "LessonMaker" "fed" "I", .methodLink RX10 72 yX10_feedNumber, .instanceMethod yX10_feedNumber, .selects RX10 yX10_feedNumber yX10_feedNumber, .code yX10_feedNumber cX10_feedNumber 3 none, .fieldLink RX10 92 "LessonMaker" "latestTrouble" "I", .methodLink RX10 76 yX10_accept, .instanceMethod yX10_accept, .selects RX10 yX10_accept yX10_accept, .code yX10_accept cX10_accept 2 (some .int), .methodLink RL 26 yX10_feed, .instanceMethod yX10_feed, .selects RX10 yX10_feed yX10_feed, .code yX10_feed cX10_feed 6 (some .int), .fieldLink RX14 76 "LessonMakerModel" "thrown" "I", .fieldLink RX14 304 "LessonMakerModel" "taped" "I", .methodLink RL 30 yX14_feed, .instanceMethod yX14_feed, .selects RX14 yX14_feed yX14_feed, .code yX14_feed cX14_feed 8 (some .int), .methodLink RX10 68 yX10_refuse, .instanceMethod yX10_refuse, .selects RX10 yX10_refuse yX10_refuse, .code yX10_refuse cX10_refuse 2 (some .int), .fieldLink RX7 24 "LessonMaker$Reader" "program" "LLessonMaker$Program;", .fieldLink RX7 28 "LessonMaker$Program" "tokens" "LLessonMaker$Tokens;", .fieldLink RX7 34 "LessonMaker$Reader" "tokens" "LLessonMaker$Tokens;", .fieldLink RX7 35 "LessonMaker$Program" "code" "LLessonMaker$Code;", .fieldLink RX7 39 "LessonMaker$Reader" "code" "LLessonMaker$Code;", .fieldLink RX6 39 "LessonMaker$Program" "functionCount" "I"]
set_option maxRecDepth 20000 in
theorem z_c5_in : ∀ w ∈ z_c5, w ∈ lw_tbl := z_mem [1422, 1425, 1426, 1427, 1428, 1429, 1430, 1195, 1193, 1194, 471, 521, 523, 1, 524, 483, 525, 527, 2, 528, 513, 514, 515, 516, 1391, 1402, 1516, 1517, 1518, 1519, 517, 519, 0, 520, 308, 263, 309, 267, 310, 277] (by decide +kernel)
def z_c6 : List Cond := [.fieldLink RX6 43 "LessonMaker$Program" "lineCount" "I", .fieldLink RX1 21 "LessonMaker$Code" "size" "I", .methodLink RX6 46 yX1_clear, .instanceMethod yX1_clear, .selects RX1 yX1_clear yX1_clear, .code yX1_clear cX1_clear 1 none, .methodLink RX7 40 yX6_clear, .instanceMethod yX6_clear, .selects RX6 yX6_clear yX6_clear, .code yX6_clear cX6_clear 1 none, .methodLink RX8 25 Lib.Math.min.name, .static Lib.Math.min.name, .initialized "java/lang/Math", .code Lib.Math.min.name Lib.Math.min.code 2 (some .int), .methodLink RX8 31 Lib.Math.max.name, .static Lib.Math.max.name, .code Lib.Math.max.name Lib.Math.max.code 2 (some .int), .fieldLink RX8 34 "LessonMaker$Tokens" "length" "I", .methodLink RX8 38 arraycopyName, .native arraycopyName, .static arraycopyName, .initialized "java/lang/System", .fieldLink RX8 44 "LessonMaker$Tokens" "size" "I", .methodLink RX8 51 yX8_add, .instanceMethod yX8_add, .selects RX8 yX8_add yX8_add, .code yX8_add cX8_add 4 none, .methodLink RX7 43 yX8_cut, .instanceMethod yX8_cut, .selects RX8 yX8_cut yX8_cut, .code yX8_cut cX8_cut 5 none, .fieldLink RX7 49 "LessonMaker$Reader" "next" "I", .fieldLink RX7 53 "LessonMaker$Reader" "callCount" "I", .fieldLink RX7 56 "LessonMaker$Reader" "foundFault" "I", .fieldLink RX7 59 "LessonMaker$Reader" "faultToken" "I", .fieldLink RX7 138 "LessonMaker$Tokens" "size" "I", .fieldLink RX7 212 "LessonMaker$Tokens" "kinds" "[I", .methodLink RX7 65 yX7_kind, .instanceMethod yX7_kind, .selects RX7 yX7_kind yX7_kind]
set_option maxRecDepth 20000 in
theorem z_c6_in : ∀ w ∈ z_c6, w ∈ lw_tbl := z_mem [282, 176, 541, 542, 543, 544, 537, 538, 539, 540, 549, 550, 112, 551, 552, 553, 554, 142, 555, 557, 556, 113, 147, 577, 579, 7, 580, 545, 546, 547, 548, 311, 316, 306, 307, 148, 144, 651, 653, 12] (by decide +kernel)
def z_c7 : List Cond := [.code yX7_kind cX7_kind 2 (some .int), .methodLink RX7 79 yX7_fail, .instanceMethod yX7_fail, .selects RX7 yX7_fail yX7_fail, .code yX7_fail cX7_fail 2 none, .methodLink RX7 62 yX7_readFunction, .instanceMethod yX7_readFunction, .selects RX7 yX7_readFunction yX7_readFunction, .code yX7_readFunction cX7_readFunction 3 none, .methodLink RX8 58 yX8_has, .instanceMethod yX8_has, .selects RX8 yX8_has yX8_has, .code yX8_has cX8_has 2 (some .boolean), .methodLink RX7 72 yX8_placeOf, .instanceMethod yX8_placeOf, .selects RX8 yX8_placeOf yX8_placeOf, .code yX8_placeOf cX8_placeOf 2 (some .int), .fieldLink RX7 76 "LessonMaker$Reader" "faultPlace" "I", .methodLink RX10 79 yX7_read, .instanceMethod yX7_read, .selects RX7 yX7_read yX7_read, .code yX7_read cX7_read 5 (some .int), .fieldLink RX10 83 "LessonMaker" "latestFault" "I", .methodLink RL 31 yX10_program, .instanceMethod yX10_program, .selects RX10 yX10_program yX10_program, .code yX10_program cX10_program 2 (some .int), .fieldLink RX14 79 "LessonMakerModel" "trouble" "I", .methodLink RX14 307 yX14_refused, .instanceMethod yX14_refused, .selects RX14 yX14_refused yX14_refused, .code yX14_refused cX14_refused 2 (some .int), .fieldLink RX14 88 "LessonMakerModel" "size" "I", .fieldLink RX14 103 "LessonMakerModel" "at" "I", .fieldLink RX14 310 "LessonMakerModel" "fault" "I", .fieldLink RX14 177 "LessonMakerModel" "blocks" "I", .fieldLink RX14 180 "LessonMakerModel" "brackets" "I", .methodLink RX14 106 yX14_byteAt, .instanceMethod yX14_byteAt, .selects RX14 yX14_byteAt yX14_byteAt]
set_option maxRecDepth 20000 in
theorem z_c7_in : ∀ w ∈ z_c7, w ∈ lw_tbl := z_mem [654, 655, 657, 13, 658, 647, 649, 11, 650, 675, 677, 15, 678, 718, 719, 720, 721, 304, 533, 534, 535, 536, 482, 529, 530, 531, 532, 1392, 1524, 1526, 60, 1527, 1403, 1404, 1394, 1410, 1411, 1536, 1538, 63] (by decide +kernel)
def z_c8 : List Cond := [.code yX14_byteAt cX14_byteAt 2 (some .int), .fieldLink RX14 110 "LessonMakerModel" "place" "I", .fieldLink RX14 111 "LessonMakerModel" "sort" "I", .fieldLink RX14 114 "LessonMakerModel" "mark" "I", .methodLink RX14 147 yX14_next, .instanceMethod yX14_next, .selects RX14 yX14_next yX14_next, .code yX14_next cX14_next 3 none, .methodLink RX14 154 yX14_isWord, .instanceMethod yX14_isWord, .selects RX14 yX14_isWord yX14_isWord, .code yX14_isWord cX14_isWord 2 (some .boolean), .methodLink RX14 144 yX14_stop, .instanceMethod yX14_stop, .selects RX14 yX14_stop yX14_stop, .code yX14_stop cX14_stop 3 (some (.object "LessonMakerModel$Stop")), .methodLink RX14 183 yX14_readFunction, .instanceMethod yX14_readFunction, .selects RX14 yX14_readFunction yX14_readFunction, .code yX14_readFunction cX14_readFunction 5 none, .methodLink RX14 313 yX14_reads, .instanceMethod yX14_reads, .selects RX14 yX14_reads yX14_reads, .code yX14_reads cX14_reads 5 none, .methodLink RL 34 yX14_program, .instanceMethod yX14_program, .selects RX14 yX14_program yX14_program, .codeWith yX14_program cX14_program 3 (some .int) [(43, 47, 50, 26)], .methodLink RL 35 yX10_fault, .instanceMethod yX10_fault, .selects RX10 yX10_fault yX10_fault, .code yX10_fault cX10_fault 1 (some .int), .methodLink RL 39 yX14_fault, .instanceMethod yX14_fault, .selects RX14 yX14_fault yX14_fault, .code yX14_fault cX14_fault 1 (some .int), .methodLink RL 40 yX10_where, .instanceMethod yX10_where, .selects RX10 yX10_where yX10_where, .code yX10_where cX10_where 1 (some .int)]
set_option maxRecDepth 20000 in
theorem z_c8_in : ∀ w ∈ z_c8, w ∈ lw_tbl := z_mem [1539, 1406, 1405, 1407, 1532, 1534, 62, 1535, 1555, 1557, 65, 1558, 1564, 1566, 66, 1567, 1550, 1552, 64, 1553, 1528, 1530, 61, 1531, 1520, 1521, 1522, 1523, 827, 828, 829, 830, 1634, 1635, 1636, 1637, 831, 832, 833, 834] (by decide +kernel)
def z_c9 : List Cond := [.methodLink RL 43 yX14_where, .instanceMethod yX14_where, .selects RX14 yX14_where yX14_where, .code yX14_where cX14_where 1 (some .int), .methodLink RX10 98 yX6_hasFunction, .instanceMethod yX6_hasFunction, .selects RX6 yX6_hasFunction yX6_hasFunction, .code yX6_hasFunction cX6_hasFunction 2 (some .boolean), .methodLink RL 44 yX10_function, .instanceMethod yX10_function, .selects RX10 yX10_function yX10_function, .code yX10_function cX10_function 3 (some .int), .fieldLink RX14 318 "LessonMakerModel" "is" "Z", .methodLink RX14 336 yX14_isFunction, .instanceMethod yX14_isFunction, .selects RX14 yX14_isFunction yX14_isFunction, .code yX14_isFunction cX14_isFunction 2 (some .boolean), .methodLink RL 47 yX14_function, .instanceMethod yX14_function, .selects RX14 yX14_function yX14_function, .code yX14_function cX14_function 3 (some .int), .classLink RX10 120 "java/util/NoSuchElementException", .initialized "java/util/NoSuchElementException", .methodLink RL 7 yX10_name, .instanceMethod yX10_name, .selects RX10 yX10_name yX10_name, .code yX10_name cX10_name 4 (some .int), .classLink RL 13 "java/util/NoSuchElementException", .methodLink RL 48 yL_name, .static yL_name, .codeWith yL_name cL_name 5 (some .int) [(0, 10, 13, 13)], .methodLink RL 53 yX14_name, .instanceMethod yX14_name, .selects RX14 yX14_name yX14_name, .code yX14_name cX14_name 3 (some .int), .methodLink RL 54 yX14_thrown, .instanceMethod yX14_thrown, .selects RX14 yX14_thrown yX14_thrown, .code yX14_thrown cX14_thrown 1 (some .int), .methodLink RX10 142 yX6_hasLine]
set_option maxRecDepth 20000 in
theorem z_c9_in : ∀ w ∈ z_c9, w ∈ lw_tbl := z_mem [1638, 1639, 1640, 1641, 839, 794, 795, 796, 835, 836, 837, 838, 1398, 1646, 1648, 80, 1649, 1642, 1643, 1644, 1645, 1089, 118, 1085, 1086, 1087, 1088, 1084, 1081, 1082, 1083, 1650, 1651, 1652, 1653, 1512, 1513, 1514, 1515, 844] (by decide +kernel)
def z_c10 : List Cond := [.instanceMethod yX6_hasLine, .selects RX6 yX6_hasLine yX6_hasLine, .code yX6_hasLine cX6_hasLine 2 (some .boolean), .methodLink RL 57 yX10_line, .instanceMethod yX10_line, .selects RX10 yX10_line yX10_line, .code yX10_line cX10_line 3 (some .int), .methodLink RX14 341 yX14_isLine, .instanceMethod yX14_isLine, .selects RX14 yX14_isLine yX14_isLine, .code yX14_isLine cX14_isLine 2 (some .boolean), .methodLink RL 60 yX14_line, .instanceMethod yX14_line, .selects RX14 yX14_line yX14_line, .code yX14_line cX14_line 3 (some .int), .methodLink RL 61 yX10_run, .instanceMethod yX10_run, .selects RX10 yX10_run yX10_run, .code yX10_run cX10_run 6 (some .int), .methodLink RL 64 yX14_run, .instanceMethod yX14_run, .selects RX14 yX14_run yX14_run, .code yX14_run cX14_run 7 (some .int), .fieldLink RX10 171 "LessonMaker" "hasRun" "Z", .methodLink RL 65 yX10_ran, .instanceMethod yX10_ran, .selects RX10 yX10_ran yX10_ran, .code yX10_ran cX10_ran 2 (some .int), .fieldLink RX14 330 "LessonMakerModel" "hasRun" "Z", .methodLink RL 68 yX14_ran, .instanceMethod yX14_ran, .selects RX14 yX14_ran yX14_ran, .code yX14_ran cX14_ran 2 (some .int), .methodLink RL 15 yX10_said, .instanceMethod yX10_said, .selects RX10 yX10_said yX10_said, .code yX10_said cX10_said 2 (some .int), .methodLink RL 69 yL_said, .static yL_said, .codeWith yL_said cL_said 4 (some .int) [(0, 9, 12, 13)]]
set_option maxRecDepth 20000 in
theorem z_c10_in : ∀ w ∈ z_c10, w ∈ lw_tbl := z_mem [845, 846, 847, 840, 841, 842, 843, 1659, 1661, 81, 1662, 1655, 1656, 1657, 1658, 848, 849, 850, 851, 1663, 1664, 1665, 1666, 478, 937, 938, 939, 940, 1415, 1699, 1700, 1701, 1702, 1160, 1161, 1162, 1163, 1157, 1158, 1159] (by decide +kernel)
def z_c11 : List Cond := [.methodLink RL 72 yX14_said, .instanceMethod yX14_said, .selects RX14 yX14_said yX14_said, .code yX14_said cX14_said 2 (some .int), .methodLink RL 19 yX10_trace, .instanceMethod yX10_trace, .selects RX10 yX10_trace yX10_trace, .code yX10_trace cX10_trace 3 (some .int), .methodLink RL 73 yL_trace, .static yL_trace, .codeWith yL_trace cL_trace 5 (some .int) [(0, 10, 13, 13)], .methodLink RL 75 yX14_trace, .instanceMethod yX14_trace, .selects RX14 yX14_trace yX14_trace, .code yX14_trace cX14_trace 3 (some .int), .methodLink RL 76 yX10_covered, .instanceMethod yX10_covered, .selects RX10 yX10_covered yX10_covered, .code yX10_covered cX10_covered 2 (some .int), .methodLink RL 79 yX14_covered, .instanceMethod yX14_covered, .selects RX14 yX14_covered yX14_covered, .code yX14_covered cX14_covered 2 (some .int), .methodLink RL 80 yX10_place, .instanceMethod yX10_place, .selects RX10 yX10_place yX10_place, .code yX10_place cX10_place 2 (some .int), .methodLink RL 83 yX14_place, .instanceMethod yX14_place, .selects RX14 yX14_place yX14_place, .code yX14_place cX14_place 2 (some .int), .methodLink RL 84 yX10_wrong, .instanceMethod yX10_wrong, .selects RX10 yX10_wrong yX10_wrong, .code yX10_wrong cX10_wrong 6 (some .int), .methodLink RL 87 yX14_wrong, .instanceMethod yX14_wrong, .selects RX14 yX14_wrong yX14_wrong, .code yX14_wrong cX14_wrong 6 (some .int), .methodLink RL 88 yX10_unlike]
set_option maxRecDepth 20000 in
theorem z_c11_in : ∀ w ∈ z_c11, w ∈ lw_tbl := z_mem [1706, 1707, 1708, 1709, 1177, 1178, 1179, 1180, 1174, 1175, 1176, 1711, 1712, 1713, 1714, 947, 948, 949, 950, 1715, 1716, 1717, 1718, 951, 952, 953, 954, 1719, 1720, 1721, 1722, 959, 960, 961, 962, 1723, 1724, 1725, 1726, 963] (by decide +kernel)
def z_c12 : List Cond := [.instanceMethod yX10_unlike, .selects RX10 yX10_unlike yX10_unlike, .code yX10_unlike cX10_unlike 7 (some .int), .methodLink RL 92 yX14_unlike, .instanceMethod yX14_unlike, .selects RX14 yX14_unlike yX14_unlike, .code yX14_unlike cX14_unlike 12 (some .int), .fieldLink RX10 89 "LessonMaker$Program" "functionCount" "I", .methodLink RL 93 yX10_order, .instanceMethod yX10_order, .selects RX10 yX10_order yX10_order, .code yX10_order cX10_order 1 (some .int), .methodLink RL 96 yX14_order, .instanceMethod yX14_order, .selects RX14 yX14_order yX14_order, .code yX14_order cX14_order 1 (some .int), .methodLink RL 97 yX10_chapter, .instanceMethod yX10_chapter, .selects RX10 yX10_chapter yX10_chapter, .code yX10_chapter cX10_chapter 2 (some .int), .methodLink RL 100 yX14_chapter, .instanceMethod yX14_chapter, .selects RX14 yX14_chapter yX14_chapter, .code yX14_chapter cX14_chapter 5 (some .int), .methodLink RL 101 yX10_tell, .instanceMethod yX10_tell, .selects RX10 yX10_tell yX10_tell, .code yX10_tell cX10_tell 5 (some .int), .methodLink RL 104 yX14_tell, .instanceMethod yX14_tell, .selects RX14 yX14_tell yX14_tell, .code yX14_tell cX14_tell 5 (some .int), .fieldLink RX9 23 "LessonMaker$Told" "size" "I", .methodLink RX9 33 yX9_linesOf, .instanceMethod yX9_linesOf, .selects RX9 yX9_linesOf yX9_linesOf, .code yX9_linesOf cX9_linesOf 5 (some .long), .methodLink RX10 242 yX9_shownLines, .instanceMethod yX9_shownLines, .selects RX9 yX9_shownLines yX9_shownLines]
set_option maxRecDepth 20000 in
theorem z_c12_in : ∀ w ∈ z_c12, w ∈ lw_tbl := z_mem [964, 965, 966, 1727, 1728, 1729, 1730, 280, 971, 972, 973, 974, 1731, 1732, 1733, 1734, 999, 1000, 1001, 1002, 1746, 1747, 1748, 1749, 1007, 1008, 1009, 1010, 1750, 1751, 1752, 1753, 439, 1028, 1030, 55, 1031, 1024, 1025, 1026] (by decide +kernel)
def z_c13 : List Cond := [.code yX9_shownLines cX9_shownLines 1 (some .long), .constantLong RJ13 314 (6148914691236517205), .constantLong RJ13 316 (3689348814741910323), .constantLong RJ13 318 (1085102592571150095), .methodLink RX10 194 yJ13_bitCount_95d88, .static yJ13_bitCount_95d88, .initialized RJ13, .code yJ13_bitCount_95d88 cJ13_bitCount_95d88 2 (some .int), .methodLink RL 105 yX10_shown, .instanceMethod yX10_shown, .selects RX10 yX10_shown yX10_shown, .code yX10_shown cX10_shown 1 (some .int), .fieldLink RX14 324 "LessonMakerModel" "runs" "I", .methodLink RX14 428 yX14_shownBy, .instanceMethod yX14_shownBy, .selects RX14 yX14_shownBy yX14_shownBy, .code yX14_shownBy cX14_shownBy 4 (some .long), .methodLink RX14 414 yX14_lines, .static yX14_lines, .code yX14_lines cX14_lines 4 (some .int), .methodLink RL 108 yX14_shown, .instanceMethod yX14_shown, .selects RX14 yX14_shown yX14_shown, .code yX14_shown cX14_shown 1 (some .int), .methodLink RX9 37 yX9_fewestSet, .instanceMethod yX9_fewestSet, .selects RX9 yX9_fewestSet yX9_fewestSet, .code yX9_fewestSet cX9_fewestSet 5 (some .int), .fieldLink RX9 26 "LessonMaker$Told" "chosenCount" "I", .methodLink RX9 41 yX9_choose, .instanceMethod yX9_choose, .selects RX9 yX9_choose yX9_choose, .code yX9_choose cX9_choose 3 none, .methodLink RX10 246 yX9_chooseFewest, .instanceMethod yX9_chooseFewest, .selects RX9 yX9_chooseFewest yX9_chooseFewest, .code yX9_chooseFewest cX9_chooseFewest 1 (some .int), .methodLink RL 109 yX10_fewest, .instanceMethod yX10_fewest, .selects RX10 yX10_fewest yX10_fewest]
set_option maxRecDepth 20000 in
theorem z_c13_in : ∀ w ∈ z_c13, w ∈ lw_tbl := z_mem [1027, 944, 945, 946, 941, 942, 119, 943, 1020, 1021, 1022, 1023, 1423, 1758, 1760, 91, 1761, 1703, 1704, 1705, 1754, 1755, 1756, 1757, 1044, 1046, 57, 1047, 437, 1049, 1051, 58, 1052, 1040, 1041, 1042, 1043, 1036, 1037, 1038] (by decide +kernel)
def z_c14 : List Cond := [.code yX10_fewest cX10_fewest 1 (some .int), .fieldLink RX14 327 "LessonMakerModel" "picks" "I", .methodLink RL 112 yX14_fewest, .instanceMethod yX14_fewest, .selects RX14 yX14_fewest yX14_fewest, .code yX14_fewest cX14_fewest 8 (some .int), .methodLink RX10 250 yX9_chosenAt, .instanceMethod yX9_chosenAt, .selects RX9 yX9_chosenAt yX9_chosenAt, .code yX9_chosenAt cX9_chosenAt 2 (some .int), .methodLink RL 113 yX10_picked, .instanceMethod yX10_picked, .selects RX10 yX10_picked yX10_picked, .code yX10_picked cX10_picked 2 (some .int), .methodLink RL 116 yX14_picked, .instanceMethod yX14_picked, .selects RX14 yX14_picked yX14_picked, .code yX14_picked cX14_picked 2 (some .int), .methodLink RL 117 yX10_anew, .instanceMethod yX10_anew, .selects RX10 yX10_anew yX10_anew, .code yX10_anew cX10_anew 2 (some .int), .methodLink RL 120 yX14_anew, .instanceMethod yX14_anew, .selects RX14 yX14_anew yX14_anew, .code yX14_anew cX14_anew 6 (some .int), .fieldLink RX10 256 "LessonMaker$Growth" "goneCount" "I", .methodLink RL 121 yX10_gone, .instanceMethod yX10_gone, .selects RX10 yX10_gone yX10_gone, .code yX10_gone cX10_gone 1 (some .int), .fieldLink RX14 321 "LessonMakerModel" "isPast" "Z", .methodLink RL 124 yX14_gone, .instanceMethod yX14_gone, .selects RX14 yX14_gone yX14_gone, .code yX14_gone cX14_gone 3 (some .int), .fieldLink RX10 259 "LessonMaker$Program" "lineCount" "I", .fieldLink RX10 260 "LessonMaker$Told" "size" "I", .methodLink RL 125 yX10_count, .instanceMethod yX10_count]
set_option maxRecDepth 20000 in
theorem z_c14_in : ∀ w ∈ z_c14, w ∈ lw_tbl := z_mem [1039, 1424, 1762, 1763, 1764, 1765, 1057, 1058, 1059, 1060, 1053, 1054, 1055, 1056, 1766, 1767, 1768, 1769, 1061, 1062, 1063, 1064, 1770, 1771, 1772, 1773, 462, 1069, 1070, 1071, 1072, 1399, 1782, 1783, 1784, 1785, 284, 440, 1073, 1074] (by decide +kernel)
def z_c15 : List Cond := [.selects RX10 yX10_count yX10_count, .code yX10_count cX10_count 2 (some .int), .methodLink RL 128 yX14_count, .instanceMethod yX14_count, .selects RX14 yX14_count yX14_count, .code yX14_count cX14_count 2 (some .int), .methodLink RL 129 yX10_trouble, .instanceMethod yX10_trouble, .selects RX10 yX10_trouble yX10_trouble, .code yX10_trouble cX10_trouble 1 (some .int), .methodLink RL 132 yX14_trouble, .instanceMethod yX14_trouble, .selects RX14 yX14_trouble yX14_trouble, .code yX14_trouble cX14_trouble 1 (some .int)]
set_option maxRecDepth 20000 in
theorem z_c15_in : ∀ w ∈ z_c15, w ∈ lw_tbl := z_mem [1075, 1076, 1786, 1787, 1788, 1789, 1077, 1078, 1079, 1080, 1790, 1791, 1792, 1793] (by decide +kernel)
set_option maxRecDepth 20000 in
theorem z_in_0 : ∀ w ∈ u_ws RX0 TX0 3, w ∈ lw_tbl := z_mem [422, 424, 426] (by decide +kernel)
set_option maxRecDepth 20000 in
theorem z_in_1 : ∀ w ∈ u_ws RX1 TX1 4, w ∈ lw_tbl := z_mem [178, 180, 182, 184] (by decide +kernel)
set_option maxRecDepth 20000 in
theorem z_in_2 : ∀ w ∈ u_ws RX2 TX2 9, w ∈ lw_tbl := z_mem [219, 221, 223, 225, 227, 229, 231, 233, 235] (by decide +kernel)
set_option maxRecDepth 20000 in
theorem z_in_3 : ∀ w ∈ u_ws RX3 TX3 3, w ∈ lw_tbl := z_mem [463, 465, 467] (by decide +kernel)
set_option maxRecDepth 20000 in
theorem z_in_4 : ∀ w ∈ u_ws RX4 TX4 4, w ∈ lw_tbl := z_mem [253, 255, 257, 259] (by decide +kernel)
set_option maxRecDepth 20000 in
theorem z_in_5 : ∀ w ∈ u_ws RX5 TX5 19, w ∈ lw_tbl := z_mem [374, 376, 378, 380, 382, 384, 386, 388, 390, 392, 394, 396, 398, 400, 402, 404, 406, 408, 410] (by decide +kernel)
set_option maxRecDepth 20000 in
theorem z_in_6 : ∀ w ∈ u_ws RX6 TX6 6, w ∈ lw_tbl := z_mem [285, 287, 289, 291, 293, 295] (by decide +kernel)
set_option maxRecDepth 20000 in
theorem z_in_7 : ∀ w ∈ u_ws RX7 TX7 12, w ∈ lw_tbl := z_mem [317, 319, 321, 323, 325, 327, 329, 331, 333, 335, 337, 339] (by decide +kernel)
set_option maxRecDepth 20000 in
theorem z_in_8 : ∀ w ∈ u_ws RX8 TX8 6, w ∈ lw_tbl := z_mem [149, 151, 153, 155, 157, 159] (by decide +kernel)
set_option maxRecDepth 20000 in
theorem z_in_9 : ∀ w ∈ u_ws RX9 TX9 5, w ∈ lw_tbl := z_mem [441, 443, 445, 447, 449] (by decide +kernel)
set_option maxRecDepth 20000 in
theorem z_in_10 : ∀ w ∈ u_ws RX10 TX10 14, w ∈ lw_tbl := z_mem [484, 486, 488, 490, 492, 494, 496, 498, 500, 502, 504, 506, 508, 510] (by decide +kernel)
set_option maxRecDepth 20000 in
theorem z_in_11 : ∀ w ∈ u_ws RX11 TX11 30, w ∈ lw_tbl := z_mem [1261, 1263, 1265, 1267, 1269, 1271, 1273, 1275, 1277, 1279, 1281, 1283, 1285, 1287, 1289, 1291, 1293, 1295, 1297, 1299, 1301, 1303, 1305, 1307, 1309, 1311, 1313, 1315, 1317, 1319] (by decide +kernel)
set_option maxRecDepth 20000 in
theorem z_in_12 : ∀ w ∈ u_ws RX12 TX12 10, w ∈ lw_tbl := z_mem [1370, 1372, 1374, 1376, 1378, 1380, 1382, 1384, 1386, 1388] (by decide +kernel)
set_option maxRecDepth 20000 in
theorem z_in_13 : ∀ w ∈ u_ws RX13 TX13 8, w ∈ lw_tbl := z_mem [1326, 1327, 1328, 1329, 1330, 1349, 1345, 1347] (by decide +kernel)
set_option maxRecDepth 20000 in
theorem z_in_14 : ∀ w ∈ u_ws RX14 TX14 40, w ∈ lw_tbl := z_mem [1431, 1433, 1435, 1437, 1439, 1441, 1443, 1445, 1447, 1449, 1451, 1453, 1455, 1457, 1459, 1461, 1463, 1465, 1467, 1469, 1471, 1473, 1475, 1477, 1479, 1481, 1483, 1485, 1487, 1489, 1491, 1493, 1495, 1497, 1499, 1501, 1503, 1505, 1507, 1509] (by decide +kernel)
set_option maxRecDepth 20000 in
theorem z_X_in : ∀ w ∈ z_X, w ∈ lw_tbl := z_mem [107, 1111, 1120, 1123, 1126, 1128, 1112, 1113, 127, 128, 1114, 1119, 1124, 1144, 1101, 1145, 1103, 1146, 1105, 1115, 1117, 1107, 1140, 1141, 1143, 1107, 1131, 1132, 1133, 1134, 1134, 1135, 1136, 1137, 1137, 1138, 1139, 1140, 1130, 1090, 1098, 1099, 1100, 1102, 1104, 1106, 1110, 1109, 1108] (by decide +kernel)
def z_wl2 : List Cond := u_ws RX8 TX8 6 ++ (u_ws RX1 TX1 4 ++ (u_ws RX2 TX2 9 ++ (u_ws RX4 TX4 4 ++ (u_ws RX6 TX6 6 ++ (u_ws RX7 TX7 12 ++ (u_ws RX5 TX5 19 ++ (u_ws RX0 TX0 3 ++ (u_ws RX9 TX9 5 ++ (u_ws RX3 TX3 3 ++ (u_ws RX10 TX10 14 ++ (u_ws RX11 TX11 30 ++ (u_ws RX13 TX13 8 ++ (u_ws RX12 TX12 10 ++ (u_ws RX14 TX14 40 ++ z_X))))))))))))))
def z_wlaw : List Cond := z_c0 ++ (z_c1 ++ (z_c2 ++ (z_c3 ++ (z_c4 ++ (z_c5 ++ (z_c6 ++ (z_c7 ++ (z_c8 ++ (z_c9 ++ (z_c10 ++ (z_c11 ++ (z_c12 ++ (z_c13 ++ (z_c14 ++ (z_c15 ++ z_wl2)))))))))))))))
theorem z_app {a b big : List Cond} (ha : ∀ w ∈ a, w ∈ big) (hb : ∀ w ∈ b, w ∈ big) : ∀ w ∈ a ++ b, w ∈ big := fun w h => (List.mem_append.mp h).elim (ha w) (hb w)
theorem z_wlaw_in : ∀ w ∈ z_wlaw, w ∈ lw_tbl := z_app z_c0_in (z_app z_c1_in (z_app z_c2_in (z_app z_c3_in (z_app z_c4_in (z_app z_c5_in (z_app z_c6_in (z_app z_c7_in (z_app z_c8_in (z_app z_c9_in (z_app z_c10_in (z_app z_c11_in (z_app z_c12_in (z_app z_c13_in (z_app z_c14_in (z_app z_c15_in (z_app z_in_8 (z_app z_in_1 (z_app z_in_2 (z_app z_in_4 (z_app z_in_6 (z_app z_in_7 (z_app z_in_5 (z_app z_in_0 (z_app z_in_9 (z_app z_in_3 (z_app z_in_10 (z_app z_in_11 (z_app z_in_13 (z_app z_in_12 (z_app z_in_14 (z_X_in)))))))))))))))))))))))))))))))
theorem z_wlaw_8 : ∀ w ∈ u_ws RX8 TX8 6, w ∈ z_wlaw := fun w h => List.mem_append_right _ (List.mem_append_right _ (List.mem_append_right _ (List.mem_append_right _ (List.mem_append_right _ (List.mem_append_right _ (List.mem_append_right _ (List.mem_append_right _ (List.mem_append_right _ (List.mem_append_right _ (List.mem_append_right _ (List.mem_append_right _ (List.mem_append_right _ (List.mem_append_right _ (List.mem_append_right _ (List.mem_append_right _ (List.mem_append_left _ h))))))))))))))))
theorem z_wlaw_1 : ∀ w ∈ u_ws RX1 TX1 4, w ∈ z_wlaw := fun w h => List.mem_append_right _ (List.mem_append_right _ (List.mem_append_right _ (List.mem_append_right _ (List.mem_append_right _ (List.mem_append_right _ (List.mem_append_right _ (List.mem_append_right _ (List.mem_append_right _ (List.mem_append_right _ (List.mem_append_right _ (List.mem_append_right _ (List.mem_append_right _ (List.mem_append_right _ (List.mem_append_right _ (List.mem_append_right _ (List.mem_append_right _ (List.mem_append_left _ h)))))))))))))))))
theorem z_wlaw_2 : ∀ w ∈ u_ws RX2 TX2 9, w ∈ z_wlaw := fun w h => List.mem_append_right _ (List.mem_append_right _ (List.mem_append_right _ (List.mem_append_right _ (List.mem_append_right _ (List.mem_append_right _ (List.mem_append_right _ (List.mem_append_right _ (List.mem_append_right _ (List.mem_append_right _ (List.mem_append_right _ (List.mem_append_right _ (List.mem_append_right _ (List.mem_append_right _ (List.mem_append_right _ (List.mem_append_right _ (List.mem_append_right _ (List.mem_append_right _ (List.mem_append_left _ h))))))))))))))))))
theorem z_wlaw_4 : ∀ w ∈ u_ws RX4 TX4 4, w ∈ z_wlaw := fun w h => List.mem_append_right _ (List.mem_append_right _ (List.mem_append_right _ (List.mem_append_right _ (List.mem_append_right _ (List.mem_append_right _ (List.mem_append_right _ (List.mem_append_right _ (List.mem_append_right _ (List.mem_append_right _ (List.mem_append_right _ (List.mem_append_right _ (List.mem_append_right _ (List.mem_append_right _ (List.mem_append_right _ (List.mem_append_right _ (List.mem_append_right _ (List.mem_append_right _ (List.mem_append_right _ (List.mem_append_left _ h)))))))))))))))))))
theorem z_wlaw_6 : ∀ w ∈ u_ws RX6 TX6 6, w ∈ z_wlaw := fun w h => List.mem_append_right _ (List.mem_append_right _ (List.mem_append_right _ (List.mem_append_right _ (List.mem_append_right _ (List.mem_append_right _ (List.mem_append_right _ (List.mem_append_right _ (List.mem_append_right _ (List.mem_append_right _ (List.mem_append_right _ (List.mem_append_right _ (List.mem_append_right _ (List.mem_append_right _ (List.mem_append_right _ (List.mem_append_right _ (List.mem_append_right _ (List.mem_append_right _ (List.mem_append_right _ (List.mem_append_right _ (List.mem_append_left _ h))))))))))))))))))))
theorem z_wlaw_7 : ∀ w ∈ u_ws RX7 TX7 12, w ∈ z_wlaw := fun w h => List.mem_append_right _ (List.mem_append_right _ (List.mem_append_right _ (List.mem_append_right _ (List.mem_append_right _ (List.mem_append_right _ (List.mem_append_right _ (List.mem_append_right _ (List.mem_append_right _ (List.mem_append_right _ (List.mem_append_right _ (List.mem_append_right _ (List.mem_append_right _ (List.mem_append_right _ (List.mem_append_right _ (List.mem_append_right _ (List.mem_append_right _ (List.mem_append_right _ (List.mem_append_right _ (List.mem_append_right _ (List.mem_append_right _ (List.mem_append_left _ h)))))))))))))))))))))
theorem z_wlaw_5 : ∀ w ∈ u_ws RX5 TX5 19, w ∈ z_wlaw := fun w h => List.mem_append_right _ (List.mem_append_right _ (List.mem_append_right _ (List.mem_append_right _ (List.mem_append_right _ (List.mem_append_right _ (List.mem_append_right _ (List.mem_append_right _ (List.mem_append_right _ (List.mem_append_right _ (List.mem_append_right _ (List.mem_append_right _ (List.mem_append_right _ (List.mem_append_right _ (List.mem_append_right _ (List.mem_append_right _ (List.mem_append_right _ (List.mem_append_right _ (List.mem_append_right _ (List.mem_append_right _ (List.mem_append_right _ (List.mem_append_right _ (List.mem_append_left _ h))))))))))))))))))))))
theorem z_wlaw_0 : ∀ w ∈ u_ws RX0 TX0 3, w ∈ z_wlaw := fun w h => List.mem_append_right _ (List.mem_append_right _ (List.mem_append_right _ (List.mem_append_right _ (List.mem_append_right _ (List.mem_append_right _ (List.mem_append_right _ (List.mem_append_right _ (List.mem_append_right _ (List.mem_append_right _ (List.mem_append_right _ (List.mem_append_right _ (List.mem_append_right _ (List.mem_append_right _ (List.mem_append_right _ (List.mem_append_right _ (List.mem_append_right _ (List.mem_append_right _ (List.mem_append_right _ (List.mem_append_right _ (List.mem_append_right _ (List.mem_append_right _ (List.mem_append_right _ (List.mem_append_left _ h)))))))))))))))))))))))
theorem z_wlaw_9 : ∀ w ∈ u_ws RX9 TX9 5, w ∈ z_wlaw := fun w h => List.mem_append_right _ (List.mem_append_right _ (List.mem_append_right _ (List.mem_append_right _ (List.mem_append_right _ (List.mem_append_right _ (List.mem_append_right _ (List.mem_append_right _ (List.mem_append_right _ (List.mem_append_right _ (List.mem_append_right _ (List.mem_append_right _ (List.mem_append_right _ (List.mem_append_right _ (List.mem_append_right _ (List.mem_append_right _ (List.mem_append_right _ (List.mem_append_right _ (List.mem_append_right _ (List.mem_append_right _ (List.mem_append_right _ (List.mem_append_right _ (List.mem_append_right _ (List.mem_append_right _ (List.mem_append_left _ h))))))))))))))))))))))))
theorem z_wlaw_3 : ∀ w ∈ u_ws RX3 TX3 3, w ∈ z_wlaw := fun w h => List.mem_append_right _ (List.mem_append_right _ (List.mem_append_right _ (List.mem_append_right _ (List.mem_append_right _ (List.mem_append_right _ (List.mem_append_right _ (List.mem_append_right _ (List.mem_append_right _ (List.mem_append_right _ (List.mem_append_right _ (List.mem_append_right _ (List.mem_append_right _ (List.mem_append_right _ (List.mem_append_right _ (List.mem_append_right _ (List.mem_append_right _ (List.mem_append_right _ (List.mem_append_right _ (List.mem_append_right _ (List.mem_append_right _ (List.mem_append_right _ (List.mem_append_right _ (List.mem_append_right _ (List.mem_append_right _ (List.mem_append_left _ h)))))))))))))))))))))))))
theorem z_wlaw_10 : ∀ w ∈ u_ws RX10 TX10 14, w ∈ z_wlaw := fun w h => List.mem_append_right _ (List.mem_append_right _ (List.mem_append_right _ (List.mem_append_right _ (List.mem_append_right _ (List.mem_append_right _ (List.mem_append_right _ (List.mem_append_right _ (List.mem_append_right _ (List.mem_append_right _ (List.mem_append_right _ (List.mem_append_right _ (List.mem_append_right _ (List.mem_append_right _ (List.mem_append_right _ (List.mem_append_right _ (List.mem_append_right _ (List.mem_append_right _ (List.mem_append_right _ (List.mem_append_right _ (List.mem_append_right _ (List.mem_append_right _ (List.mem_append_right _ (List.mem_append_right _ (List.mem_append_right _ (List.mem_append_right _ (List.mem_append_left _ h))))))))))))))))))))))))))
theorem z_wlaw_11 : ∀ w ∈ u_ws RX11 TX11 30, w ∈ z_wlaw := fun w h => List.mem_append_right _ (List.mem_append_right _ (List.mem_append_right _ (List.mem_append_right _ (List.mem_append_right _ (List.mem_append_right _ (List.mem_append_right _ (List.mem_append_right _ (List.mem_append_right _ (List.mem_append_right _ (List.mem_append_right _ (List.mem_append_right _ (List.mem_append_right _ (List.mem_append_right _ (List.mem_append_right _ (List.mem_append_right _ (List.mem_append_right _ (List.mem_append_right _ (List.mem_append_right _ (List.mem_append_right _ (List.mem_append_right _ (List.mem_append_right _ (List.mem_append_right _ (List.mem_append_right _ (List.mem_append_right _ (List.mem_append_right _ (List.mem_append_right _ (List.mem_append_left _ h)))))))))))))))))))))))))))
theorem z_wlaw_13 : ∀ w ∈ u_ws RX13 TX13 8, w ∈ z_wlaw := fun w h => List.mem_append_right _ (List.mem_append_right _ (List.mem_append_right _ (List.mem_append_right _ (List.mem_append_right _ (List.mem_append_right _ (List.mem_append_right _ (List.mem_append_right _ (List.mem_append_right _ (List.mem_append_right _ (List.mem_append_right _ (List.mem_append_right _ (List.mem_append_right _ (List.mem_append_right _ (List.mem_append_right _ (List.mem_append_right _ (List.mem_append_right _ (List.mem_append_right _ (List.mem_append_right _ (List.mem_append_right _ (List.mem_append_right _ (List.mem_append_right _ (List.mem_append_right _ (List.mem_append_right _ (List.mem_append_right _ (List.mem_append_right _ (List.mem_append_right _ (List.mem_append_right _ (List.mem_append_left _ h))))))))))))))))))))))))))))
theorem z_wlaw_12 : ∀ w ∈ u_ws RX12 TX12 10, w ∈ z_wlaw := fun w h => List.mem_append_right _ (List.mem_append_right _ (List.mem_append_right _ (List.mem_append_right _ (List.mem_append_right _ (List.mem_append_right _ (List.mem_append_right _ (List.mem_append_right _ (List.mem_append_right _ (List.mem_append_right _ (List.mem_append_right _ (List.mem_append_right _ (List.mem_append_right _ (List.mem_append_right _ (List.mem_append_right _ (List.mem_append_right _ (List.mem_append_right _ (List.mem_append_right _ (List.mem_append_right _ (List.mem_append_right _ (List.mem_append_right _ (List.mem_append_right _ (List.mem_append_right _ (List.mem_append_right _ (List.mem_append_right _ (List.mem_append_right _ (List.mem_append_right _ (List.mem_append_right _ (List.mem_append_right _ (List.mem_append_left _ h)))))))))))))))))))))))))))))
theorem z_wlaw_14 : ∀ w ∈ u_ws RX14 TX14 40, w ∈ z_wlaw := fun w h => List.mem_append_right _ (List.mem_append_right _ (List.mem_append_right _ (List.mem_append_right _ (List.mem_append_right _ (List.mem_append_right _ (List.mem_append_right _ (List.mem_append_right _ (List.mem_append_right _ (List.mem_append_right _ (List.mem_append_right _ (List.mem_append_right _ (List.mem_append_right _ (List.mem_append_right _ (List.mem_append_right _ (List.mem_append_right _ (List.mem_append_right _ (List.mem_append_right _ (List.mem_append_right _ (List.mem_append_right _ (List.mem_append_right _ (List.mem_append_right _ (List.mem_append_right _ (List.mem_append_right _ (List.mem_append_right _ (List.mem_append_right _ (List.mem_append_right _ (List.mem_append_right _ (List.mem_append_right _ (List.mem_append_right _ (List.mem_append_left _ h))))))))))))))))))))))))))))))
end
