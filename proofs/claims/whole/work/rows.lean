section
-- ===== PART A: goes FIRST, ahead of the names: the tables' words, and 'selects' of the private methods out of them =====
/-- a private method of a class that the tables say can be made, by its rows of tables_1 -/
def lw_okq (q : MethodName × Nat) : Prop := (q.1.cls ≠ "java/lang/invoke/MethodHandle" ∧ q.1.cls ≠ "java/lang/invoke/VarHandle") ∧ Cond.instantiable q.1.cls q.2 ∈ tables_1 ∧ Cond.privateMethod q.1 ∈ tables_1 ∧ Cond.instanceMethod q.1 ∈ tables_1
theorem lw_p0 : lw_okq (⟨"ExamTour$Tokens", "byteAt", "(I)I"⟩, 7) := ⟨⟨by decide +kernel, by decide +kernel⟩, List.mem_of_getElem? (i := 29) (by decide +kernel), List.mem_of_getElem? (i := 439) (by decide +kernel), List.mem_of_getElem? (i := 440) (by decide +kernel)⟩
theorem lw_p1 : lw_okq (⟨"ExamTour$Tokens", "readWord", "()V"⟩, 7) := ⟨⟨by decide +kernel, by decide +kernel⟩, List.mem_of_getElem? (i := 29) (by decide +kernel), List.mem_of_getElem? (i := 449) (by decide +kernel), List.mem_of_getElem? (i := 450) (by decide +kernel)⟩
theorem lw_p2 : lw_okq (⟨"ExamTour$Tokens", "readNumber", "()V"⟩, 7) := ⟨⟨by decide +kernel, by decide +kernel⟩, List.mem_of_getElem? (i := 29) (by decide +kernel), List.mem_of_getElem? (i := 464) (by decide +kernel), List.mem_of_getElem? (i := 465) (by decide +kernel)⟩
theorem lw_p3 : lw_okq (⟨"ExamTour$Parser", "openGrade", "()LExamTour$Grade;"⟩, 6) := ⟨⟨by decide +kernel, by decide +kernel⟩, List.mem_of_getElem? (i := 23) (by decide +kernel), List.mem_of_getElem? (i := 471) (by decide +kernel), List.mem_of_getElem? (i := 472) (by decide +kernel)⟩
theorem lw_p4 : lw_okq (⟨"ExamTour$Parser", "take", "(I)V"⟩, 6) := ⟨⟨by decide +kernel, by decide +kernel⟩, List.mem_of_getElem? (i := 23) (by decide +kernel), List.mem_of_getElem? (i := 475) (by decide +kernel), List.mem_of_getElem? (i := 476) (by decide +kernel)⟩
theorem lw_p5 : lw_okq (⟨"ExamTour$Parser", "refuse", "()V"⟩, 6) := ⟨⟨by decide +kernel, by decide +kernel⟩, List.mem_of_getElem? (i := 23) (by decide +kernel), List.mem_of_getElem? (i := 480) (by decide +kernel), List.mem_of_getElem? (i := 481) (by decide +kernel)⟩
theorem lw_p6 : lw_okq (⟨"ExamTour$Parser", "fail", "(II)V"⟩, 6) := ⟨⟨by decide +kernel, by decide +kernel⟩, List.mem_of_getElem? (i := 23) (by decide +kernel), List.mem_of_getElem? (i := 484) (by decide +kernel), List.mem_of_getElem? (i := 485) (by decide +kernel)⟩
theorem lw_p7 : lw_okq (⟨"ExamTour$Parser", "takeNumber", "(II)I"⟩, 6) := ⟨⟨by decide +kernel, by decide +kernel⟩, List.mem_of_getElem? (i := 23) (by decide +kernel), List.mem_of_getElem? (i := 488) (by decide +kernel), List.mem_of_getElem? (i := 489) (by decide +kernel)⟩
theorem lw_p8 : lw_okq (⟨"ExamTour$Parser", "readItem", "(LExamTour$Grade;)V"⟩, 6) := ⟨⟨by decide +kernel, by decide +kernel⟩, List.mem_of_getElem? (i := 23) (by decide +kernel), List.mem_of_getElem? (i := 500) (by decide +kernel), List.mem_of_getElem? (i := 501) (by decide +kernel)⟩
theorem lw_p9 : lw_okq (⟨"ExamTour$Parser", "cannotStartItem", "(LExamTour$Grade;)Z"⟩, 6) := ⟨⟨by decide +kernel, by decide +kernel⟩, List.mem_of_getElem? (i := 23) (by decide +kernel), List.mem_of_getElem? (i := 504) (by decide +kernel), List.mem_of_getElem? (i := 505) (by decide +kernel)⟩
theorem lw_p10 : lw_okq (⟨"ExamTour$Parser", "readList", "(LExamTour$Grade;)V"⟩, 6) := ⟨⟨by decide +kernel, by decide +kernel⟩, List.mem_of_getElem? (i := 23) (by decide +kernel), List.mem_of_getElem? (i := 508) (by decide +kernel), List.mem_of_getElem? (i := 509) (by decide +kernel)⟩
theorem lw_p11 : lw_okq (⟨"ExamTour$Parser", "takeNewName", "(LExamTour$Grade;)J"⟩, 6) := ⟨⟨by decide +kernel, by decide +kernel⟩, List.mem_of_getElem? (i := 23) (by decide +kernel), List.mem_of_getElem? (i := 512) (by decide +kernel), List.mem_of_getElem? (i := 513) (by decide +kernel)⟩
theorem lw_p12 : lw_okq (⟨"ExamTour$Parser", "takeListed", "(LExamTour$Grade;)V"⟩, 6) := ⟨⟨by decide +kernel, by decide +kernel⟩, List.mem_of_getElem? (i := 23) (by decide +kernel), List.mem_of_getElem? (i := 531) (by decide +kernel), List.mem_of_getElem? (i := 532) (by decide +kernel)⟩
theorem lw_p13 : lw_okq (⟨"ExamTour$Parser", "readPart", "(LExamTour$Grade;)V"⟩, 6) := ⟨⟨by decide +kernel, by decide +kernel⟩, List.mem_of_getElem? (i := 23) (by decide +kernel), List.mem_of_getElem? (i := 547) (by decide +kernel), List.mem_of_getElem? (i := 548) (by decide +kernel)⟩
theorem lw_p14 : lw_okq (⟨"ExamTour$Parser", "readE", "(LExamTour$Grade;I)V"⟩, 6) := ⟨⟨by decide +kernel, by decide +kernel⟩, List.mem_of_getElem? (i := 23) (by decide +kernel), List.mem_of_getElem? (i := 559) (by decide +kernel), List.mem_of_getElem? (i := 560) (by decide +kernel)⟩
theorem lw_p15 : lw_okq (⟨"ExamTour$Parser", "readBoth", "(LExamTour$Grade;I)V"⟩, 6) := ⟨⟨by decide +kernel, by decide +kernel⟩, List.mem_of_getElem? (i := 23) (by decide +kernel), List.mem_of_getElem? (i := 563) (by decide +kernel), List.mem_of_getElem? (i := 564) (by decide +kernel)⟩
def lw_privs_1 : List (MethodName × Nat) := [(⟨"ExamTour$Tokens", "byteAt", "(I)I"⟩, 7), (⟨"ExamTour$Tokens", "readWord", "()V"⟩, 7), (⟨"ExamTour$Tokens", "readNumber", "()V"⟩, 7), (⟨"ExamTour$Parser", "openGrade", "()LExamTour$Grade;"⟩, 6), (⟨"ExamTour$Parser", "take", "(I)V"⟩, 6), (⟨"ExamTour$Parser", "refuse", "()V"⟩, 6), (⟨"ExamTour$Parser", "fail", "(II)V"⟩, 6), (⟨"ExamTour$Parser", "takeNumber", "(II)I"⟩, 6), (⟨"ExamTour$Parser", "readItem", "(LExamTour$Grade;)V"⟩, 6), (⟨"ExamTour$Parser", "cannotStartItem", "(LExamTour$Grade;)Z"⟩, 6), (⟨"ExamTour$Parser", "readList", "(LExamTour$Grade;)V"⟩, 6), (⟨"ExamTour$Parser", "takeNewName", "(LExamTour$Grade;)J"⟩, 6), (⟨"ExamTour$Parser", "takeListed", "(LExamTour$Grade;)V"⟩, 6), (⟨"ExamTour$Parser", "readPart", "(LExamTour$Grade;)V"⟩, 6), (⟨"ExamTour$Parser", "readE", "(LExamTour$Grade;I)V"⟩, 6), (⟨"ExamTour$Parser", "readBoth", "(LExamTour$Grade;I)V"⟩, 6)]
theorem lw_r1 : ∀ q ∈ lw_privs_1, lw_okq q := List.forall_mem_cons.mpr ⟨lw_p0, List.forall_mem_cons.mpr ⟨lw_p1, List.forall_mem_cons.mpr ⟨lw_p2, List.forall_mem_cons.mpr ⟨lw_p3, List.forall_mem_cons.mpr ⟨lw_p4, List.forall_mem_cons.mpr ⟨lw_p5, List.forall_mem_cons.mpr ⟨lw_p6, List.forall_mem_cons.mpr ⟨lw_p7, List.forall_mem_cons.mpr ⟨lw_p8, List.forall_mem_cons.mpr ⟨lw_p9, List.forall_mem_cons.mpr ⟨lw_p10, List.forall_mem_cons.mpr ⟨lw_p11, List.forall_mem_cons.mpr ⟨lw_p12, List.forall_mem_cons.mpr ⟨lw_p13, List.forall_mem_cons.mpr ⟨lw_p14, List.forall_mem_cons.mpr ⟨lw_p15, fun _ h => absurd h List.not_mem_nil⟩⟩⟩⟩⟩⟩⟩⟩⟩⟩⟩⟩⟩⟩⟩⟩
theorem lw_p16 : lw_okq (⟨"ExamTour$Parser", "readOne", "(LExamTour$Grade;I)V"⟩, 6) := ⟨⟨by decide +kernel, by decide +kernel⟩, List.mem_of_getElem? (i := 23) (by decide +kernel), List.mem_of_getElem? (i := 567) (by decide +kernel), List.mem_of_getElem? (i := 568) (by decide +kernel)⟩
theorem lw_p17 : lw_okq (⟨"ExamTour$Parser", "readCompared", "(LExamTour$Grade;I)V"⟩, 6) := ⟨⟨by decide +kernel, by decide +kernel⟩, List.mem_of_getElem? (i := 23) (by decide +kernel), List.mem_of_getElem? (i := 575) (by decide +kernel), List.mem_of_getElem? (i := 576) (by decide +kernel)⟩
theorem lw_p18 : lw_okq (⟨"ExamTour$Parser", "readSum", "(LExamTour$Grade;I)V"⟩, 6) := ⟨⟨by decide +kernel, by decide +kernel⟩, List.mem_of_getElem? (i := 23) (by decide +kernel), List.mem_of_getElem? (i := 579) (by decide +kernel), List.mem_of_getElem? (i := 580) (by decide +kernel)⟩
theorem lw_p19 : lw_okq (⟨"ExamTour$Parser", "readLeaf", "(LExamTour$Grade;I)V"⟩, 6) := ⟨⟨by decide +kernel, by decide +kernel⟩, List.mem_of_getElem? (i := 23) (by decide +kernel), List.mem_of_getElem? (i := 583) (by decide +kernel), List.mem_of_getElem? (i := 584) (by decide +kernel)⟩
theorem lw_p20 : lw_okq (⟨"ExamTour$Parser", "addMeaning", "(LExamTour$Grade;)V"⟩, 6) := ⟨⟨by decide +kernel, by decide +kernel⟩, List.mem_of_getElem? (i := 23) (by decide +kernel), List.mem_of_getElem? (i := 590) (by decide +kernel), List.mem_of_getElem? (i := 591) (by decide +kernel)⟩
theorem lw_p21 : lw_okq (⟨"ExamTour$Parser", "addNamed", "(II)V"⟩, 6) := ⟨⟨by decide +kernel, by decide +kernel⟩, List.mem_of_getElem? (i := 23) (by decide +kernel), List.mem_of_getElem? (i := 594) (by decide +kernel), List.mem_of_getElem? (i := 595) (by decide +kernel)⟩
theorem lw_p22 : lw_okq (⟨"ExamTour", "gradesOf", "(I)I"⟩, 8) := ⟨⟨by decide +kernel, by decide +kernel⟩, List.mem_of_getElem? (i := 15) (by decide +kernel), List.mem_of_getElem? (i := 602) (by decide +kernel), List.mem_of_getElem? (i := 603) (by decide +kernel)⟩
theorem lw_p23 : lw_okq (⟨"ExamTour", "findGrade", "(II)LExamTour$Grade;"⟩, 8) := ⟨⟨by decide +kernel, by decide +kernel⟩, List.mem_of_getElem? (i := 15) (by decide +kernel), List.mem_of_getElem? (i := 614) (by decide +kernel), List.mem_of_getElem? (i := 615) (by decide +kernel)⟩
theorem lw_p24 : lw_okq (⟨"ExamTour", "firstUnmet", "(I)I"⟩, 8) := ⟨⟨by decide +kernel, by decide +kernel⟩, List.mem_of_getElem? (i := 15) (by decide +kernel), List.mem_of_getElem? (i := 657) (by decide +kernel), List.mem_of_getElem? (i := 658) (by decide +kernel)⟩
theorem lw_p25 : lw_okq (⟨"ExamTour", "gradeOf", "(I)LExamTour$Grade;"⟩, 8) := ⟨⟨by decide +kernel, by decide +kernel⟩, List.mem_of_getElem? (i := 15) (by decide +kernel), List.mem_of_getElem? (i := 661) (by decide +kernel), List.mem_of_getElem? (i := 662) (by decide +kernel)⟩
theorem lw_p26 : lw_okq (⟨"ExamTour$Judge", "markLeaf", "(IILExamTour$Grade;)I"⟩, 3) := ⟨⟨by decide +kernel, by decide +kernel⟩, List.mem_of_getElem? (i := 174) (by decide +kernel), List.mem_of_getElem? (i := 673) (by decide +kernel), List.mem_of_getElem? (i := 674) (by decide +kernel)⟩
theorem lw_p27 : lw_okq (⟨"ExamTour$Judge", "total", "(I)I"⟩, 3) := ⟨⟨by decide +kernel, by decide +kernel⟩, List.mem_of_getElem? (i := 174) (by decide +kernel), List.mem_of_getElem? (i := 677) (by decide +kernel), List.mem_of_getElem? (i := 678) (by decide +kernel)⟩
theorem lw_p28 : lw_okq (⟨"ExamTour$Judge", "least", "(I)I"⟩, 3) := ⟨⟨by decide +kernel, by decide +kernel⟩, List.mem_of_getElem? (i := 174) (by decide +kernel), List.mem_of_getElem? (i := 681) (by decide +kernel), List.mem_of_getElem? (i := 682) (by decide +kernel)⟩
theorem lw_p29 : lw_okq (⟨"ExamTour$Judge", "push", "(I)V"⟩, 3) := ⟨⟨by decide +kernel, by decide +kernel⟩, List.mem_of_getElem? (i := 174) (by decide +kernel), List.mem_of_getElem? (i := 688) (by decide +kernel), List.mem_of_getElem? (i := 689) (by decide +kernel)⟩
theorem lw_p30 : lw_okq (⟨"ExamTour$Judge", "pieceLeaf", "(IILExamTour$Grade;LExamTour$Entries;I)I"⟩, 3) := ⟨⟨by decide +kernel, by decide +kernel⟩, List.mem_of_getElem? (i := 174) (by decide +kernel), List.mem_of_getElem? (i := 692) (by decide +kernel), List.mem_of_getElem? (i := 693) (by decide +kernel)⟩
theorem lw_p31 : lw_okq (⟨"ExamTour$Judge", "pop", "()I"⟩, 3) := ⟨⟨by decide +kernel, by decide +kernel⟩, List.mem_of_getElem? (i := 174) (by decide +kernel), List.mem_of_getElem? (i := 709) (by decide +kernel), List.mem_of_getElem? (i := 710) (by decide +kernel)⟩
def lw_privs_2 : List (MethodName × Nat) := [(⟨"ExamTour$Parser", "readOne", "(LExamTour$Grade;I)V"⟩, 6), (⟨"ExamTour$Parser", "readCompared", "(LExamTour$Grade;I)V"⟩, 6), (⟨"ExamTour$Parser", "readSum", "(LExamTour$Grade;I)V"⟩, 6), (⟨"ExamTour$Parser", "readLeaf", "(LExamTour$Grade;I)V"⟩, 6), (⟨"ExamTour$Parser", "addMeaning", "(LExamTour$Grade;)V"⟩, 6), (⟨"ExamTour$Parser", "addNamed", "(II)V"⟩, 6), (⟨"ExamTour", "gradesOf", "(I)I"⟩, 8), (⟨"ExamTour", "findGrade", "(II)LExamTour$Grade;"⟩, 8), (⟨"ExamTour", "firstUnmet", "(I)I"⟩, 8), (⟨"ExamTour", "gradeOf", "(I)LExamTour$Grade;"⟩, 8), (⟨"ExamTour$Judge", "markLeaf", "(IILExamTour$Grade;)I"⟩, 3), (⟨"ExamTour$Judge", "total", "(I)I"⟩, 3), (⟨"ExamTour$Judge", "least", "(I)I"⟩, 3), (⟨"ExamTour$Judge", "push", "(I)V"⟩, 3), (⟨"ExamTour$Judge", "pieceLeaf", "(IILExamTour$Grade;LExamTour$Entries;I)I"⟩, 3), (⟨"ExamTour$Judge", "pop", "()I"⟩, 3)]
theorem lw_r2 : ∀ q ∈ lw_privs_2, lw_okq q := List.forall_mem_cons.mpr ⟨lw_p16, List.forall_mem_cons.mpr ⟨lw_p17, List.forall_mem_cons.mpr ⟨lw_p18, List.forall_mem_cons.mpr ⟨lw_p19, List.forall_mem_cons.mpr ⟨lw_p20, List.forall_mem_cons.mpr ⟨lw_p21, List.forall_mem_cons.mpr ⟨lw_p22, List.forall_mem_cons.mpr ⟨lw_p23, List.forall_mem_cons.mpr ⟨lw_p24, List.forall_mem_cons.mpr ⟨lw_p25, List.forall_mem_cons.mpr ⟨lw_p26, List.forall_mem_cons.mpr ⟨lw_p27, List.forall_mem_cons.mpr ⟨lw_p28, List.forall_mem_cons.mpr ⟨lw_p29, List.forall_mem_cons.mpr ⟨lw_p30, List.forall_mem_cons.mpr ⟨lw_p31, fun _ h => absurd h List.not_mem_nil⟩⟩⟩⟩⟩⟩⟩⟩⟩⟩⟩⟩⟩⟩⟩⟩
theorem lw_p32 : lw_okq (⟨"ExamTour", "minutesWith", "(II)I"⟩, 8) := ⟨⟨by decide +kernel, by decide +kernel⟩, List.mem_of_getElem? (i := 15) (by decide +kernel), List.mem_of_getElem? (i := 760) (by decide +kernel), List.mem_of_getElem? (i := 761) (by decide +kernel)⟩
theorem lw_p33 : lw_okq (⟨"ExamTour", "minutesOf", "(I)I"⟩, 8) := ⟨⟨by decide +kernel, by decide +kernel⟩, List.mem_of_getElem? (i := 15) (by decide +kernel), List.mem_of_getElem? (i := 764) (by decide +kernel), List.mem_of_getElem? (i := 765) (by decide +kernel)⟩
theorem lw_p34 : lw_okq (⟨"ExamTour", "mayTake", "(II)Z"⟩, 8) := ⟨⟨by decide +kernel, by decide +kernel⟩, List.mem_of_getElem? (i := 15) (by decide +kernel), List.mem_of_getElem? (i := 780) (by decide +kernel), List.mem_of_getElem? (i := 781) (by decide +kernel)⟩
theorem lw_p35 : lw_okq (⟨"ExamTour", "mayHear", "(II)Z"⟩, 8) := ⟨⟨by decide +kernel, by decide +kernel⟩, List.mem_of_getElem? (i := 15) (by decide +kernel), List.mem_of_getElem? (i := 784) (by decide +kernel), List.mem_of_getElem? (i := 785) (by decide +kernel)⟩
theorem lw_p36 : lw_okq (⟨"ExamTour", "heardElsewhere", "(II)Z"⟩, 8) := ⟨⟨by decide +kernel, by decide +kernel⟩, List.mem_of_getElem? (i := 15) (by decide +kernel), List.mem_of_getElem? (i := 792) (by decide +kernel), List.mem_of_getElem? (i := 793) (by decide +kernel)⟩
theorem lw_p37 : lw_okq (⟨"ExamTour$Planner", "orderByDay", "(LExamTour$Circuit;)V"⟩, 9) := ⟨⟨by decide +kernel, by decide +kernel⟩, List.mem_of_getElem? (i := 278) (by decide +kernel), List.mem_of_getElem? (i := 812) (by decide +kernel), List.mem_of_getElem? (i := 813) (by decide +kernel)⟩
theorem lw_p38 : lw_okq (⟨"ExamTour$Planner", "startDay", "(Z)V"⟩, 9) := ⟨⟨by decide +kernel, by decide +kernel⟩, List.mem_of_getElem? (i := 278) (by decide +kernel), List.mem_of_getElem? (i := 816) (by decide +kernel), List.mem_of_getElem? (i := 817) (by decide +kernel)⟩
theorem lw_p39 : lw_okq (⟨"ExamTour$Planner", "sendAllHome", "()V"⟩, 9) := ⟨⟨by decide +kernel, by decide +kernel⟩, List.mem_of_getElem? (i := 278) (by decide +kernel), List.mem_of_getElem? (i := 820) (by decide +kernel), List.mem_of_getElem? (i := 821) (by decide +kernel)⟩
theorem lw_p40 : lw_okq (⟨"ExamTour$Planner", "giveDay", "(LExamTour$Circuit;IIIJ)V"⟩, 9) := ⟨⟨by decide +kernel, by decide +kernel⟩, List.mem_of_getElem? (i := 278) (by decide +kernel), List.mem_of_getElem? (i := 828) (by decide +kernel), List.mem_of_getElem? (i := 829) (by decide +kernel)⟩
theorem lw_p41 : lw_okq (⟨"ExamTour$Planner", "addState", "(LExamTour$Circuit;IJ)V"⟩, 9) := ⟨⟨by decide +kernel, by decide +kernel⟩, List.mem_of_getElem? (i := 278) (by decide +kernel), List.mem_of_getElem? (i := 832) (by decide +kernel), List.mem_of_getElem? (i := 833) (by decide +kernel)⟩
theorem lw_p42 : lw_okq (⟨"ExamTour$Planner", "choose", "(IJ)V"⟩, 9) := ⟨⟨by decide +kernel, by decide +kernel⟩, List.mem_of_getElem? (i := 278) (by decide +kernel), List.mem_of_getElem? (i := 851) (by decide +kernel), List.mem_of_getElem? (i := 852) (by decide +kernel)⟩
theorem lw_p43 : lw_okq (⟨"ExamTour", "canBeTaken", "(I)Z"⟩, 8) := ⟨⟨by decide +kernel, by decide +kernel⟩, List.mem_of_getElem? (i := 15) (by decide +kernel), List.mem_of_getElem? (i := 863) (by decide +kernel), List.mem_of_getElem? (i := 864) (by decide +kernel)⟩
theorem lw_p44 : lw_okq (⟨"ExamTour", "canBeMarked", "(III)Z"⟩, 8) := ⟨⟨by decide +kernel, by decide +kernel⟩, List.mem_of_getElem? (i := 15) (by decide +kernel), List.mem_of_getElem? (i := 876) (by decide +kernel), List.mem_of_getElem? (i := 877) (by decide +kernel)⟩
theorem lw_p45 : lw_okq (⟨"ExamTour$Ledger", "lastOf", "(IIII)I"⟩, 9) := ⟨⟨by decide +kernel, by decide +kernel⟩, List.mem_of_getElem? (i := 314) (by decide +kernel), List.mem_of_getElem? (i := 892) (by decide +kernel), List.mem_of_getElem? (i := 893) (by decide +kernel)⟩
theorem lw_p46 : lw_okq (⟨"ExamTour$Ledger", "isKnown", "(II)Z"⟩, 9) := ⟨⟨by decide +kernel, by decide +kernel⟩, List.mem_of_getElem? (i := 314) (by decide +kernel), List.mem_of_getElem? (i := 896) (by decide +kernel), List.mem_of_getElem? (i := 897) (by decide +kernel)⟩
theorem lw_p47 : lw_okq (⟨"ExamTour", "resultOf", "(II)I"⟩, 8) := ⟨⟨by decide +kernel, by decide +kernel⟩, List.mem_of_getElem? (i := 15) (by decide +kernel), List.mem_of_getElem? (i := 926) (by decide +kernel), List.mem_of_getElem? (i := 927) (by decide +kernel)⟩
def lw_privs_3 : List (MethodName × Nat) := [(⟨"ExamTour", "minutesWith", "(II)I"⟩, 8), (⟨"ExamTour", "minutesOf", "(I)I"⟩, 8), (⟨"ExamTour", "mayTake", "(II)Z"⟩, 8), (⟨"ExamTour", "mayHear", "(II)Z"⟩, 8), (⟨"ExamTour", "heardElsewhere", "(II)Z"⟩, 8), (⟨"ExamTour$Planner", "orderByDay", "(LExamTour$Circuit;)V"⟩, 9), (⟨"ExamTour$Planner", "startDay", "(Z)V"⟩, 9), (⟨"ExamTour$Planner", "sendAllHome", "()V"⟩, 9), (⟨"ExamTour$Planner", "giveDay", "(LExamTour$Circuit;IIIJ)V"⟩, 9), (⟨"ExamTour$Planner", "addState", "(LExamTour$Circuit;IJ)V"⟩, 9), (⟨"ExamTour$Planner", "choose", "(IJ)V"⟩, 9), (⟨"ExamTour", "canBeTaken", "(I)Z"⟩, 8), (⟨"ExamTour", "canBeMarked", "(III)Z"⟩, 8), (⟨"ExamTour$Ledger", "lastOf", "(IIII)I"⟩, 9), (⟨"ExamTour$Ledger", "isKnown", "(II)Z"⟩, 9), (⟨"ExamTour", "resultOf", "(II)I"⟩, 8)]
theorem lw_r3 : ∀ q ∈ lw_privs_3, lw_okq q := List.forall_mem_cons.mpr ⟨lw_p32, List.forall_mem_cons.mpr ⟨lw_p33, List.forall_mem_cons.mpr ⟨lw_p34, List.forall_mem_cons.mpr ⟨lw_p35, List.forall_mem_cons.mpr ⟨lw_p36, List.forall_mem_cons.mpr ⟨lw_p37, List.forall_mem_cons.mpr ⟨lw_p38, List.forall_mem_cons.mpr ⟨lw_p39, List.forall_mem_cons.mpr ⟨lw_p40, List.forall_mem_cons.mpr ⟨lw_p41, List.forall_mem_cons.mpr ⟨lw_p42, List.forall_mem_cons.mpr ⟨lw_p43, List.forall_mem_cons.mpr ⟨lw_p44, List.forall_mem_cons.mpr ⟨lw_p45, List.forall_mem_cons.mpr ⟨lw_p46, List.forall_mem_cons.mpr ⟨lw_p47, fun _ h => absurd h List.not_mem_nil⟩⟩⟩⟩⟩⟩⟩⟩⟩⟩⟩⟩⟩⟩⟩⟩
theorem lw_p48 : lw_okq (⟨"ExamTour$Ledger", "insertGap", "(II)I"⟩, 9) := ⟨⟨by decide +kernel, by decide +kernel⟩, List.mem_of_getElem? (i := 314) (by decide +kernel), List.mem_of_getElem? (i := 938) (by decide +kernel), List.mem_of_getElem? (i := 939) (by decide +kernel)⟩
theorem lw_p49 : lw_okq (⟨"ExamTourModel", "next", "()V"⟩, 77) := ⟨⟨by decide +kernel, by decide +kernel⟩, List.mem_of_getElem? (i := 970) (by decide +kernel), List.mem_of_getElem? (i := 1212) (by decide +kernel), List.mem_of_getElem? (i := 1213) (by decide +kernel)⟩
theorem lw_p50 : lw_okq (⟨"ExamTourModel", "sign", "(I)I"⟩, 77) := ⟨⟨by decide +kernel, by decide +kernel⟩, List.mem_of_getElem? (i := 970) (by decide +kernel), List.mem_of_getElem? (i := 1216) (by decide +kernel), List.mem_of_getElem? (i := 1217) (by decide +kernel)⟩
theorem lw_p51 : lw_okq (⟨"ExamTourModel", "isGood", "()Z"⟩, 77) := ⟨⟨by decide +kernel, by decide +kernel⟩, List.mem_of_getElem? (i := 970) (by decide +kernel), List.mem_of_getElem? (i := 1247) (by decide +kernel), List.mem_of_getElem? (i := 1248) (by decide +kernel)⟩
theorem lw_p52 : lw_okq (⟨"ExamTourModel", "readGrade", "()V"⟩, 77) := ⟨⟨by decide +kernel, by decide +kernel⟩, List.mem_of_getElem? (i := 970) (by decide +kernel), List.mem_of_getElem? (i := 1251) (by decide +kernel), List.mem_of_getElem? (i := 1252) (by decide +kernel)⟩
theorem lw_p53 : lw_okq (⟨"ExamTourModel", "isWord", "(J)Z"⟩, 77) := ⟨⟨by decide +kernel, by decide +kernel⟩, List.mem_of_getElem? (i := 970) (by decide +kernel), List.mem_of_getElem? (i := 1255) (by decide +kernel), List.mem_of_getElem? (i := 1256) (by decide +kernel)⟩
theorem lw_p54 : lw_okq (⟨"ExamTourModel", "wrong", "()V"⟩, 77) := ⟨⟨by decide +kernel, by decide +kernel⟩, List.mem_of_getElem? (i := 970) (by decide +kernel), List.mem_of_getElem? (i := 1259) (by decide +kernel), List.mem_of_getElem? (i := 1260) (by decide +kernel)⟩
theorem lw_p55 : lw_okq (⟨"ExamTourModel", "fails", "(II)V"⟩, 77) := ⟨⟨by decide +kernel, by decide +kernel⟩, List.mem_of_getElem? (i := 970) (by decide +kernel), List.mem_of_getElem? (i := 1263) (by decide +kernel), List.mem_of_getElem? (i := 1264) (by decide +kernel)⟩
theorem lw_p56 : lw_okq (⟨"ExamTourModel", "numberOf", "(II)I"⟩, 77) := ⟨⟨by decide +kernel, by decide +kernel⟩, List.mem_of_getElem? (i := 970) (by decide +kernel), List.mem_of_getElem? (i := 1267) (by decide +kernel), List.mem_of_getElem? (i := 1268) (by decide +kernel)⟩
theorem lw_p57 : lw_okq (⟨"ExamTourModel", "must", "(I)V"⟩, 77) := ⟨⟨by decide +kernel, by decide +kernel⟩, List.mem_of_getElem? (i := 970) (by decide +kernel), List.mem_of_getElem? (i := 1271) (by decide +kernel), List.mem_of_getElem? (i := 1272) (by decide +kernel)⟩
theorem lw_p58 : lw_okq (⟨"ExamTourModel", "is", "(I)Z"⟩, 77) := ⟨⟨by decide +kernel, by decide +kernel⟩, List.mem_of_getElem? (i := 970) (by decide +kernel), List.mem_of_getElem? (i := 1275) (by decide +kernel), List.mem_of_getElem? (i := 1276) (by decide +kernel)⟩
theorem lw_p59 : lw_okq (⟨"ExamTourModel", "readItem", "(I)V"⟩, 77) := ⟨⟨by decide +kernel, by decide +kernel⟩, List.mem_of_getElem? (i := 970) (by decide +kernel), List.mem_of_getElem? (i := 1279) (by decide +kernel), List.mem_of_getElem? (i := 1280) (by decide +kernel)⟩
theorem lw_p60 : lw_okq (⟨"ExamTourModel", "readList", "(I)V"⟩, 77) := ⟨⟨by decide +kernel, by decide +kernel⟩, List.mem_of_getElem? (i := 970) (by decide +kernel), List.mem_of_getElem? (i := 1283) (by decide +kernel), List.mem_of_getElem? (i := 1284) (by decide +kernel)⟩
theorem lw_p61 : lw_okq (⟨"ExamTourModel", "canName", "(I)Z"⟩, 77) := ⟨⟨by decide +kernel, by decide +kernel⟩, List.mem_of_getElem? (i := 970) (by decide +kernel), List.mem_of_getElem? (i := 1287) (by decide +kernel), List.mem_of_getElem? (i := 1288) (by decide +kernel)⟩
theorem lw_p62 : lw_okq (⟨"ExamTourModel", "listOf", "(IJ)I"⟩, 77) := ⟨⟨by decide +kernel, by decide +kernel⟩, List.mem_of_getElem? (i := 970) (by decide +kernel), List.mem_of_getElem? (i := 1291) (by decide +kernel), List.mem_of_getElem? (i := 1292) (by decide +kernel)⟩
theorem lw_p63 : lw_okq (⟨"ExamTourModel", "partOf", "(IJ)I"⟩, 77) := ⟨⟨by decide +kernel, by decide +kernel⟩, List.mem_of_getElem? (i := 970) (by decide +kernel), List.mem_of_getElem? (i := 1295) (by decide +kernel), List.mem_of_getElem? (i := 1296) (by decide +kernel)⟩
def lw_privs_4 : List (MethodName × Nat) := [(⟨"ExamTour$Ledger", "insertGap", "(II)I"⟩, 9), (⟨"ExamTourModel", "next", "()V"⟩, 77), (⟨"ExamTourModel", "sign", "(I)I"⟩, 77), (⟨"ExamTourModel", "isGood", "()Z"⟩, 77), (⟨"ExamTourModel", "readGrade", "()V"⟩, 77), (⟨"ExamTourModel", "isWord", "(J)Z"⟩, 77), (⟨"ExamTourModel", "wrong", "()V"⟩, 77), (⟨"ExamTourModel", "fails", "(II)V"⟩, 77), (⟨"ExamTourModel", "numberOf", "(II)I"⟩, 77), (⟨"ExamTourModel", "must", "(I)V"⟩, 77), (⟨"ExamTourModel", "is", "(I)Z"⟩, 77), (⟨"ExamTourModel", "readItem", "(I)V"⟩, 77), (⟨"ExamTourModel", "readList", "(I)V"⟩, 77), (⟨"ExamTourModel", "canName", "(I)Z"⟩, 77), (⟨"ExamTourModel", "listOf", "(IJ)I"⟩, 77), (⟨"ExamTourModel", "partOf", "(IJ)I"⟩, 77)]
theorem lw_r4 : ∀ q ∈ lw_privs_4, lw_okq q := List.forall_mem_cons.mpr ⟨lw_p48, List.forall_mem_cons.mpr ⟨lw_p49, List.forall_mem_cons.mpr ⟨lw_p50, List.forall_mem_cons.mpr ⟨lw_p51, List.forall_mem_cons.mpr ⟨lw_p52, List.forall_mem_cons.mpr ⟨lw_p53, List.forall_mem_cons.mpr ⟨lw_p54, List.forall_mem_cons.mpr ⟨lw_p55, List.forall_mem_cons.mpr ⟨lw_p56, List.forall_mem_cons.mpr ⟨lw_p57, List.forall_mem_cons.mpr ⟨lw_p58, List.forall_mem_cons.mpr ⟨lw_p59, List.forall_mem_cons.mpr ⟨lw_p60, List.forall_mem_cons.mpr ⟨lw_p61, List.forall_mem_cons.mpr ⟨lw_p62, List.forall_mem_cons.mpr ⟨lw_p63, fun _ h => absurd h List.not_mem_nil⟩⟩⟩⟩⟩⟩⟩⟩⟩⟩⟩⟩⟩⟩⟩⟩
theorem lw_p64 : lw_okq (⟨"ExamTourModel", "hasPiece", "(IJ)Z"⟩, 77) := ⟨⟨by decide +kernel, by decide +kernel⟩, List.mem_of_getElem? (i := 970) (by decide +kernel), List.mem_of_getElem? (i := 1299) (by decide +kernel), List.mem_of_getElem? (i := 1300) (by decide +kernel)⟩
theorem lw_p65 : lw_okq (⟨"ExamTourModel", "readPart", "(I)V"⟩, 77) := ⟨⟨by decide +kernel, by decide +kernel⟩, List.mem_of_getElem? (i := 970) (by decide +kernel), List.mem_of_getElem? (i := 1303) (by decide +kernel), List.mem_of_getElem? (i := 1304) (by decide +kernel)⟩
theorem lw_p66 : lw_okq (⟨"ExamTourModel", "e", "(IZ)V"⟩, 77) := ⟨⟨by decide +kernel, by decide +kernel⟩, List.mem_of_getElem? (i := 970) (by decide +kernel), List.mem_of_getElem? (i := 1307) (by decide +kernel), List.mem_of_getElem? (i := 1308) (by decide +kernel)⟩
theorem lw_p67 : lw_okq (⟨"ExamTourModel", "pile", "(II)V"⟩, 77) := ⟨⟨by decide +kernel, by decide +kernel⟩, List.mem_of_getElem? (i := 970) (by decide +kernel), List.mem_of_getElem? (i := 1311) (by decide +kernel), List.mem_of_getElem? (i := 1312) (by decide +kernel)⟩
theorem lw_p68 : lw_okq (⟨"ExamTourModel", "behind", "()I"⟩, 77) := ⟨⟨by decide +kernel, by decide +kernel⟩, List.mem_of_getElem? (i := 970) (by decide +kernel), List.mem_of_getElem? (i := 1315) (by decide +kernel), List.mem_of_getElem? (i := 1316) (by decide +kernel)⟩
theorem lw_p69 : lw_okq (⟨"ExamTourModel", "rankHere", "()I"⟩, 77) := ⟨⟨by decide +kernel, by decide +kernel⟩, List.mem_of_getElem? (i := 970) (by decide +kernel), List.mem_of_getElem? (i := 1319) (by decide +kernel), List.mem_of_getElem? (i := 1320) (by decide +kernel)⟩
theorem lw_p70 : lw_okq (⟨"ExamTourModel", "step", "(II)V"⟩, 77) := ⟨⟨by decide +kernel, by decide +kernel⟩, List.mem_of_getElem? (i := 970) (by decide +kernel), List.mem_of_getElem? (i := 1323) (by decide +kernel), List.mem_of_getElem? (i := 1324) (by decide +kernel)⟩
theorem lw_p71 : lw_okq (⟨"ExamTourModel", "value", "(IIZ)I"⟩, 77) := ⟨⟨by decide +kernel, by decide +kernel⟩, List.mem_of_getElem? (i := 970) (by decide +kernel), List.mem_of_getElem? (i := 1327) (by decide +kernel), List.mem_of_getElem? (i := 1328) (by decide +kernel)⟩
theorem lw_p72 : lw_okq (⟨"ExamTourModel", "meant", "(IZ)V"⟩, 77) := ⟨⟨by decide +kernel, by decide +kernel⟩, List.mem_of_getElem? (i := 970) (by decide +kernel), List.mem_of_getElem? (i := 1331) (by decide +kernel), List.mem_of_getElem? (i := 1332) (by decide +kernel)⟩
theorem lw_p73 : lw_okq (⟨"ExamTourModel", "spot", "(II)I"⟩, 77) := ⟨⟨by decide +kernel, by decide +kernel⟩, List.mem_of_getElem? (i := 970) (by decide +kernel), List.mem_of_getElem? (i := 1343) (by decide +kernel), List.mem_of_getElem? (i := 1344) (by decide +kernel)⟩
theorem lw_p74 : lw_okq (⟨"ExamTourModel", "minutesOf", "(I)I"⟩, 77) := ⟨⟨by decide +kernel, by decide +kernel⟩, List.mem_of_getElem? (i := 970) (by decide +kernel), List.mem_of_getElem? (i := 1347) (by decide +kernel), List.mem_of_getElem? (i := 1348) (by decide +kernel)⟩
theorem lw_p75 : lw_okq (⟨"ExamTourModel", "isEntry", "(I)Z"⟩, 77) := ⟨⟨by decide +kernel, by decide +kernel⟩, List.mem_of_getElem? (i := 970) (by decide +kernel), List.mem_of_getElem? (i := 1359) (by decide +kernel), List.mem_of_getElem? (i := 1360) (by decide +kernel)⟩
theorem lw_p76 : lw_okq (⟨"ExamTourModel", "spotOf", "(I)I"⟩, 77) := ⟨⟨by decide +kernel, by decide +kernel⟩, List.mem_of_getElem? (i := 970) (by decide +kernel), List.mem_of_getElem? (i := 1371) (by decide +kernel), List.mem_of_getElem? (i := 1372) (by decide +kernel)⟩
theorem lw_p77 : lw_okq (⟨"ExamTourModel", "work", "(IIII)I"⟩, 77) := ⟨⟨by decide +kernel, by decide +kernel⟩, List.mem_of_getElem? (i := 970) (by decide +kernel), List.mem_of_getElem? (i := 1375) (by decide +kernel), List.mem_of_getElem? (i := 1376) (by decide +kernel)⟩
theorem lw_p78 : lw_okq (⟨"ExamTourModel", "leaf", "(IIII)I"⟩, 77) := ⟨⟨by decide +kernel, by decide +kernel⟩, List.mem_of_getElem? (i := 970) (by decide +kernel), List.mem_of_getElem? (i := 1379) (by decide +kernel), List.mem_of_getElem? (i := 1380) (by decide +kernel)⟩
theorem lw_p79 : lw_okq (⟨"ExamTourModel", "inList", "(II)I"⟩, 77) := ⟨⟨by decide +kernel, by decide +kernel⟩, List.mem_of_getElem? (i := 970) (by decide +kernel), List.mem_of_getElem? (i := 1383) (by decide +kernel), List.mem_of_getElem? (i := 1384) (by decide +kernel)⟩
def lw_privs_5 : List (MethodName × Nat) := [(⟨"ExamTourModel", "hasPiece", "(IJ)Z"⟩, 77), (⟨"ExamTourModel", "readPart", "(I)V"⟩, 77), (⟨"ExamTourModel", "e", "(IZ)V"⟩, 77), (⟨"ExamTourModel", "pile", "(II)V"⟩, 77), (⟨"ExamTourModel", "behind", "()I"⟩, 77), (⟨"ExamTourModel", "rankHere", "()I"⟩, 77), (⟨"ExamTourModel", "step", "(II)V"⟩, 77), (⟨"ExamTourModel", "value", "(IIZ)I"⟩, 77), (⟨"ExamTourModel", "meant", "(IZ)V"⟩, 77), (⟨"ExamTourModel", "spot", "(II)I"⟩, 77), (⟨"ExamTourModel", "minutesOf", "(I)I"⟩, 77), (⟨"ExamTourModel", "isEntry", "(I)Z"⟩, 77), (⟨"ExamTourModel", "spotOf", "(I)I"⟩, 77), (⟨"ExamTourModel", "work", "(IIII)I"⟩, 77), (⟨"ExamTourModel", "leaf", "(IIII)I"⟩, 77), (⟨"ExamTourModel", "inList", "(II)I"⟩, 77)]
theorem lw_r5 : ∀ q ∈ lw_privs_5, lw_okq q := List.forall_mem_cons.mpr ⟨lw_p64, List.forall_mem_cons.mpr ⟨lw_p65, List.forall_mem_cons.mpr ⟨lw_p66, List.forall_mem_cons.mpr ⟨lw_p67, List.forall_mem_cons.mpr ⟨lw_p68, List.forall_mem_cons.mpr ⟨lw_p69, List.forall_mem_cons.mpr ⟨lw_p70, List.forall_mem_cons.mpr ⟨lw_p71, List.forall_mem_cons.mpr ⟨lw_p72, List.forall_mem_cons.mpr ⟨lw_p73, List.forall_mem_cons.mpr ⟨lw_p74, List.forall_mem_cons.mpr ⟨lw_p75, List.forall_mem_cons.mpr ⟨lw_p76, List.forall_mem_cons.mpr ⟨lw_p77, List.forall_mem_cons.mpr ⟨lw_p78, List.forall_mem_cons.mpr ⟨lw_p79, fun _ h => absurd h List.not_mem_nil⟩⟩⟩⟩⟩⟩⟩⟩⟩⟩⟩⟩⟩⟩⟩⟩
theorem lw_p80 : lw_okq (⟨"ExamTourModel", "inNone", "(II)I"⟩, 77) := ⟨⟨by decide +kernel, by decide +kernel⟩, List.mem_of_getElem? (i := 970) (by decide +kernel), List.mem_of_getElem? (i := 1387) (by decide +kernel), List.mem_of_getElem? (i := 1388) (by decide +kernel)⟩
theorem lw_p81 : lw_okq (⟨"ExamTourModel", "total", "(I)I"⟩, 77) := ⟨⟨by decide +kernel, by decide +kernel⟩, List.mem_of_getElem? (i := 970) (by decide +kernel), List.mem_of_getElem? (i := 1391) (by decide +kernel), List.mem_of_getElem? (i := 1392) (by decide +kernel)⟩
theorem lw_p82 : lw_okq (⟨"ExamTourModel", "leastMark", "(I)I"⟩, 77) := ⟨⟨by decide +kernel, by decide +kernel⟩, List.mem_of_getElem? (i := 970) (by decide +kernel), List.mem_of_getElem? (i := 1395) (by decide +kernel), List.mem_of_getElem? (i := 1396) (by decide +kernel)⟩
theorem lw_p83 : lw_okq (⟨"ExamTourModel", "isCentre", "(I)Z"⟩, 77) := ⟨⟨by decide +kernel, by decide +kernel⟩, List.mem_of_getElem? (i := 970) (by decide +kernel), List.mem_of_getElem? (i := 1410) (by decide +kernel), List.mem_of_getElem? (i := 1411) (by decide +kernel)⟩
theorem lw_p84 : lw_okq (⟨"ExamTourModel", "isSession", "(I)Z"⟩, 77) := ⟨⟨by decide +kernel, by decide +kernel⟩, List.mem_of_getElem? (i := 970) (by decide +kernel), List.mem_of_getElem? (i := 1426) (by decide +kernel), List.mem_of_getElem? (i := 1427) (by decide +kernel)⟩
theorem lw_p85 : lw_okq (⟨"ExamTourModel", "minutesIn", "(II)I"⟩, 77) := ⟨⟨by decide +kernel, by decide +kernel⟩, List.mem_of_getElem? (i := 970) (by decide +kernel), List.mem_of_getElem? (i := 1430) (by decide +kernel), List.mem_of_getElem? (i := 1431) (by decide +kernel)⟩
theorem lw_p86 : lw_okq (⟨"ExamTourModel", "isExaminer", "(I)Z"⟩, 77) := ⟨⟨by decide +kernel, by decide +kernel⟩, List.mem_of_getElem? (i := 970) (by decide +kernel), List.mem_of_getElem? (i := 1442) (by decide +kernel), List.mem_of_getElem? (i := 1443) (by decide +kernel)⟩
theorem lw_p87 : lw_okq (⟨"ExamTourModel", "mayTake", "(II)Z"⟩, 77) := ⟨⟨by decide +kernel, by decide +kernel⟩, List.mem_of_getElem? (i := 970) (by decide +kernel), List.mem_of_getElem? (i := 1446) (by decide +kernel), List.mem_of_getElem? (i := 1447) (by decide +kernel)⟩
theorem lw_p88 : lw_okq (⟨"ExamTourModel", "hasHeard", "(II)Z"⟩, 77) := ⟨⟨by decide +kernel, by decide +kernel⟩, List.mem_of_getElem? (i := 970) (by decide +kernel), List.mem_of_getElem? (i := 1450) (by decide +kernel), List.mem_of_getElem? (i := 1451) (by decide +kernel)⟩
theorem lw_p89 : lw_okq (⟨"ExamTourModel", "travel", "(II)I"⟩, 77) := ⟨⟨by decide +kernel, by decide +kernel⟩, List.mem_of_getElem? (i := 970) (by decide +kernel), List.mem_of_getElem? (i := 1462) (by decide +kernel), List.mem_of_getElem? (i := 1463) (by decide +kernel)⟩
theorem lw_p90 : lw_okq (⟨"ExamTourModel", "nextOf", "(II)I"⟩, 77) := ⟨⟨by decide +kernel, by decide +kernel⟩, List.mem_of_getElem? (i := 970) (by decide +kernel), List.mem_of_getElem? (i := 1467) (by decide +kernel), List.mem_of_getElem? (i := 1468) (by decide +kernel)⟩
theorem lw_p91 : lw_okq (⟨"ExamTourModel", "solve", "()I"⟩, 77) := ⟨⟨by decide +kernel, by decide +kernel⟩, List.mem_of_getElem? (i := 970) (by decide +kernel), List.mem_of_getElem? (i := 1471) (by decide +kernel), List.mem_of_getElem? (i := 1472) (by decide +kernel)⟩
theorem lw_p92 : lw_okq (⟨"ExamTourModel", "agrees", "(II)Z"⟩, 77) := ⟨⟨by decide +kernel, by decide +kernel⟩, List.mem_of_getElem? (i := 970) (by decide +kernel), List.mem_of_getElem? (i := 1475) (by decide +kernel), List.mem_of_getElem? (i := 1476) (by decide +kernel)⟩
theorem lw_p93 : lw_okq (⟨"ExamTourModel", "tell", "(IIII)I"⟩, 77) := ⟨⟨by decide +kernel, by decide +kernel⟩, List.mem_of_getElem? (i := 970) (by decide +kernel), List.mem_of_getElem? (i := 1492) (by decide +kernel), List.mem_of_getElem? (i := 1493) (by decide +kernel)⟩
theorem lw_p94 : lw_okq (⟨"ExamTourModel", "lastOf", "(IIII)I"⟩, 77) := ⟨⟨by decide +kernel, by decide +kernel⟩, List.mem_of_getElem? (i := 970) (by decide +kernel), List.mem_of_getElem? (i := 1504) (by decide +kernel), List.mem_of_getElem? (i := 1505) (by decide +kernel)⟩
theorem lw_p95 : lw_okq (⟨"ExamTourModel", "isKnown", "(II)Z"⟩, 77) := ⟨⟨by decide +kernel, by decide +kernel⟩, List.mem_of_getElem? (i := 970) (by decide +kernel), List.mem_of_getElem? (i := 1508) (by decide +kernel), List.mem_of_getElem? (i := 1509) (by decide +kernel)⟩
def lw_privs_6 : List (MethodName × Nat) := [(⟨"ExamTourModel", "inNone", "(II)I"⟩, 77), (⟨"ExamTourModel", "total", "(I)I"⟩, 77), (⟨"ExamTourModel", "leastMark", "(I)I"⟩, 77), (⟨"ExamTourModel", "isCentre", "(I)Z"⟩, 77), (⟨"ExamTourModel", "isSession", "(I)Z"⟩, 77), (⟨"ExamTourModel", "minutesIn", "(II)I"⟩, 77), (⟨"ExamTourModel", "isExaminer", "(I)Z"⟩, 77), (⟨"ExamTourModel", "mayTake", "(II)Z"⟩, 77), (⟨"ExamTourModel", "hasHeard", "(II)Z"⟩, 77), (⟨"ExamTourModel", "travel", "(II)I"⟩, 77), (⟨"ExamTourModel", "nextOf", "(II)I"⟩, 77), (⟨"ExamTourModel", "solve", "()I"⟩, 77), (⟨"ExamTourModel", "agrees", "(II)Z"⟩, 77), (⟨"ExamTourModel", "tell", "(IIII)I"⟩, 77), (⟨"ExamTourModel", "lastOf", "(IIII)I"⟩, 77), (⟨"ExamTourModel", "isKnown", "(II)Z"⟩, 77)]
theorem lw_r6 : ∀ q ∈ lw_privs_6, lw_okq q := List.forall_mem_cons.mpr ⟨lw_p80, List.forall_mem_cons.mpr ⟨lw_p81, List.forall_mem_cons.mpr ⟨lw_p82, List.forall_mem_cons.mpr ⟨lw_p83, List.forall_mem_cons.mpr ⟨lw_p84, List.forall_mem_cons.mpr ⟨lw_p85, List.forall_mem_cons.mpr ⟨lw_p86, List.forall_mem_cons.mpr ⟨lw_p87, List.forall_mem_cons.mpr ⟨lw_p88, List.forall_mem_cons.mpr ⟨lw_p89, List.forall_mem_cons.mpr ⟨lw_p90, List.forall_mem_cons.mpr ⟨lw_p91, List.forall_mem_cons.mpr ⟨lw_p92, List.forall_mem_cons.mpr ⟨lw_p93, List.forall_mem_cons.mpr ⟨lw_p94, List.forall_mem_cons.mpr ⟨lw_p95, fun _ h => absurd h List.not_mem_nil⟩⟩⟩⟩⟩⟩⟩⟩⟩⟩⟩⟩⟩⟩⟩⟩
theorem lw_p96 : lw_okq (⟨"ExamTourModel", "doesHold", "(II)Z"⟩, 77) := ⟨⟨by decide +kernel, by decide +kernel⟩, List.mem_of_getElem? (i := 970) (by decide +kernel), List.mem_of_getElem? (i := 1536) (by decide +kernel), List.mem_of_getElem? (i := 1537) (by decide +kernel)⟩
def lw_privs_7 : List (MethodName × Nat) := [(⟨"ExamTourModel", "doesHold", "(II)Z"⟩, 77)]
theorem lw_r7 : ∀ q ∈ lw_privs_7, lw_okq q := List.forall_mem_cons.mpr ⟨lw_p96, fun _ h => absurd h List.not_mem_nil⟩
def lw_privs : List (MethodName × Nat) := lw_privs_1 ++ (lw_privs_2 ++ (lw_privs_3 ++ (lw_privs_4 ++ (lw_privs_5 ++ (lw_privs_6 ++ (lw_privs_7))))))
def lw_tbl : List Cond := k2_sels lw_privs ++ tables_1
theorem lw_privs_ok : ∀ q ∈ lw_privs, lw_okq q := by
  show ∀ q ∈ lw_privs_1 ++ (lw_privs_2 ++ (lw_privs_3 ++ (lw_privs_4 ++ (lw_privs_5 ++ (lw_privs_6 ++ (lw_privs_7)))))), lw_okq q
  exact List.forall_mem_append.mpr ⟨lw_r1, List.forall_mem_append.mpr ⟨lw_r2, List.forall_mem_append.mpr ⟨lw_r3, List.forall_mem_append.mpr ⟨lw_r4, List.forall_mem_append.mpr ⟨lw_r5, List.forall_mem_append.mpr ⟨lw_r6, lw_r7⟩⟩⟩⟩⟩⟩
-- ===== end of PART A; then your names; then what follows =====
end
section
def RX0 : String := "ExamTour$Certificates"
def TX0 : u_T := fun k => match k with
  | 0 => ("ExamTour$Certificates", "count", "I", false)
  | 1 => ("ExamTour$Certificates", "entries", "[I", true)
  | 2 => ("ExamTour$Certificates", "days", "[I", true)
  | _ => ("ExamTour$Certificates", "results", "[I", true)
def tyX0 : Nat → FieldType := fun k => match k with
  | 0 => .int
  | 1 => .array .int
  | 2 => .array .int
  | _ => .array .int
abbrev wsX00 : List Cond := u_ws RX0 TX0 4
theorem nmX0 : ∀ a, a < 4 → ∀ b, b < 4 → a ≠ b → (TX0 a).2.1 ≠ (TX0 b).2.1 := by decide +kernel
theorem tyX0_ok : ∀ k, k < 4 → parseFieldDescriptor (TX0 k).2.2.1 = some (tyX0 k) := by decide +kernel
abbrev cX0_init : ByteArray := prog_2_method_1_code
def yX0_init : MethodName := ⟨RX0, "<init>", "()V"⟩
abbrev cX0_has : ByteArray := prog_2_method_2_code
def yX0_has : MethodName := ⟨RX0, "has", "(I)Z"⟩
abbrev cX0_anyUpTo : ByteArray := prog_2_method_3_code
def yX0_anyUpTo : MethodName := ⟨RX0, "anyUpTo", "(II)Z"⟩
abbrev cX0_give : ByteArray := prog_2_method_4_code
def yX0_give : MethodName := ⟨RX0, "give", "(III)I"⟩
def RX1 : String := "ExamTour$Circuit"
def TX1 : u_T := fun k => match k with
  | 0 => ("ExamTour$Circuit", "centres", "I", false)
  | 1 => ("ExamTour$Circuit", "examiners", "I", false)
  | 2 => ("ExamTour$Circuit", "sessions", "I", false)
  | 3 => ("ExamTour$Circuit", "homes", "[I", true)
  | 4 => ("ExamTour$Circuit", "instruments", "[I", true)
  | 5 => ("ExamTour$Circuit", "places", "[I", true)
  | 6 => ("ExamTour$Circuit", "days", "[I", true)
  | _ => ("ExamTour$Circuit", "ways", "[I", true)
def tyX1 : Nat → FieldType := fun k => match k with
  | 0 => .int
  | 1 => .int
  | 2 => .int
  | 3 => .array .int
  | 4 => .array .int
  | 5 => .array .int
  | 6 => .array .int
  | _ => .array .int
abbrev wsX10 : List Cond := u_ws RX1 TX1 8
theorem nmX1 : ∀ a, a < 8 → ∀ b, b < 8 → a ≠ b → (TX1 a).2.1 ≠ (TX1 b).2.1 := by decide +kernel
theorem tyX1_ok : ∀ k, k < 8 → parseFieldDescriptor (TX1 k).2.2.1 = some (tyX1 k) := by decide +kernel
abbrev cX1_init : ByteArray := prog_3_method_1_code
def yX1_init : MethodName := ⟨RX1, "<init>", "()V"⟩
abbrev cX1_hasCentre : ByteArray := prog_3_method_2_code
def yX1_hasCentre : MethodName := ⟨RX1, "hasCentre", "(I)Z"⟩
abbrev cX1_hasExaminer : ByteArray := prog_3_method_3_code
def yX1_hasExaminer : MethodName := ⟨RX1, "hasExaminer", "(I)Z"⟩
abbrev cX1_hasSession : ByteArray := prog_3_method_4_code
def yX1_hasSession : MethodName := ⟨RX1, "hasSession", "(I)Z"⟩
abbrev cX1_addCentre : ByteArray := prog_3_method_5_code
def yX1_addCentre : MethodName := ⟨RX1, "addCentre", "()I"⟩
abbrev cX1_addExaminer : ByteArray := prog_3_method_6_code
def yX1_addExaminer : MethodName := ⟨RX1, "addExaminer", "(II)I"⟩
abbrev cX1_addSession : ByteArray := prog_3_method_7_code
def yX1_addSession : MethodName := ⟨RX1, "addSession", "(II)I"⟩
abbrev cX1_setWay : ByteArray := prog_3_method_8_code
def yX1_setWay : MethodName := ⟨RX1, "setWay", "(III)V"⟩
abbrev cX1_minutesBetween : ByteArray := prog_3_method_9_code
def yX1_minutesBetween : MethodName := ⟨RX1, "minutesBetween", "(II)I"⟩
abbrev cX1_plays : ByteArray := prog_3_method_10_code
def yX1_plays : MethodName := ⟨RX1, "plays", "(II)Z"⟩
def RX2 : String := "ExamTour$Entries"
def TX2 : u_T := fun k => match k with
  | 0 => ("ExamTour$Entries", "count", "I", false)
  | 1 => ("ExamTour$Entries", "candidates", "[I", true)
  | 2 => ("ExamTour$Entries", "terms", "[I", true)
  | 3 => ("ExamTour$Entries", "grades", "[I", true)
  | 4 => ("ExamTour$Entries", "instruments", "[I", true)
  | 5 => ("ExamTour$Entries", "ages", "[I", true)
  | 6 => ("ExamTour$Entries", "teachers", "[I", true)
  | 7 => ("ExamTour$Entries", "sessions", "[I", true)
  | 8 => ("ExamTour$Entries", "pieceCounts", "[I", true)
  | _ => ("ExamTour$Entries", "pieces", "[J", true)
def tyX2 : Nat → FieldType := fun k => match k with
  | 0 => .int
  | 1 => .array .int
  | 2 => .array .int
  | 3 => .array .int
  | 4 => .array .int
  | 5 => .array .int
  | 6 => .array .int
  | 7 => .array .int
  | 8 => .array .int
  | _ => .array .long
abbrev wsX20 : List Cond := u_ws RX2 TX2 10
theorem nmX2 : ∀ a, a < 10 → ∀ b, b < 10 → a ≠ b → (TX2 a).2.1 ≠ (TX2 b).2.1 := by decide +kernel
theorem tyX2_ok : ∀ k, k < 10 → parseFieldDescriptor (TX2 k).2.2.1 = some (tyX2 k) := by decide +kernel
abbrev cX2_init : ByteArray := prog_4_method_1_code
def yX2_init : MethodName := ⟨RX2, "<init>", "()V"⟩
abbrev cX2_has : ByteArray := prog_4_method_2_code
def yX2_has : MethodName := ⟨RX2, "has", "(I)Z"⟩
abbrev cX2_add : ByteArray := prog_4_method_3_code
def yX2_add : MethodName := ⟨RX2, "add", "(IIIIII)I"⟩
abbrev cX2_addPiece : ByteArray := prog_4_method_4_code
def yX2_addPiece : MethodName := ⟨RX2, "addPiece", "(IJ)I"⟩
abbrev cX2_countListed : ByteArray := prog_4_method_5_code
def yX2_countListed : MethodName := ⟨RX2, "countListed", "(ILExamTour$Grade;I)I"⟩
abbrev cX2_countOwn : ByteArray := prog_4_method_6_code
def yX2_countOwn : MethodName := ⟨RX2, "countOwn", "(ILExamTour$Grade;)I"⟩
abbrev cX2_countIn : ByteArray := prog_4_method_7_code
def yX2_countIn : MethodName := ⟨RX2, "countIn", "(I)I"⟩
def RX3 : String := "ExamTour$Grade"
def TX3 : u_T := fun k => match k with
  | 0 => ("ExamTour$Grade", "told", "Z", false)
  | 1 => ("ExamTour$Grade", "lists", "I", false)
  | 2 => ("ExamTour$Grade", "parts", "I", false)
  | 3 => ("ExamTour$Grade", "musts", "I", false)
  | 4 => ("ExamTour$Grade", "minutes", "I", false)
  | 5 => ("ExamTour$Grade", "passStart", "I", false)
  | 6 => ("ExamTour$Grade", "meritStart", "I", false)
  | 7 => ("ExamTour$Grade", "listNames", "[J", true)
  | 8 => ("ExamTour$Grade", "listSizes", "[I", true)
  | 9 => ("ExamTour$Grade", "listed", "[J", true)
  | 10 => ("ExamTour$Grade", "partNames", "[J", true)
  | 11 => ("ExamTour$Grade", "most", "[I", true)
  | _ => ("ExamTour$Grade", "mustStarts", "[I", true)
def tyX3 : Nat → FieldType := fun k => match k with
  | 0 => .boolean
  | 1 => .int
  | 2 => .int
  | 3 => .int
  | 4 => .int
  | 5 => .int
  | 6 => .int
  | 7 => .array .long
  | 8 => .array .int
  | 9 => .array .long
  | 10 => .array .long
  | 11 => .array .int
  | _ => .array .int
abbrev wsX30 : List Cond := u_ws RX3 TX3 13
theorem nmX3 : ∀ a, a < 13 → ∀ b, b < 13 → a ≠ b → (TX3 a).2.1 ≠ (TX3 b).2.1 := by decide +kernel
theorem tyX3_ok : ∀ k, k < 13 → parseFieldDescriptor (TX3 k).2.2.1 = some (tyX3 k) := by decide +kernel
abbrev cX3_init : ByteArray := prog_5_method_1_code
def yX3_init : MethodName := ⟨RX3, "<init>", "()V"⟩
abbrev cX3_clear : ByteArray := prog_5_method_2_code
def yX3_clear : MethodName := ⟨RX3, "clear", "()V"⟩
abbrev cX3_minutesOrUsual : ByteArray := prog_5_method_3_code
def yX3_minutesOrUsual : MethodName := ⟨RX3, "minutesOrUsual", "()I"⟩
abbrev cX3_findList : ByteArray := prog_5_method_4_code
def yX3_findList : MethodName := ⟨RX3, "findList", "(J)I"⟩
abbrev cX3_findPart : ByteArray := prog_5_method_5_code
def yX3_findPart : MethodName := ⟨RX3, "findPart", "(J)I"⟩
abbrev cX3_addList : ByteArray := prog_5_method_6_code
def yX3_addList : MethodName := ⟨RX3, "addList", "(J)V"⟩
abbrev cX3_addListed : ByteArray := prog_5_method_7_code
def yX3_addListed : MethodName := ⟨RX3, "addListed", "(J)V"⟩
abbrev cX3_isLastListFull : ByteArray := prog_5_method_8_code
def yX3_isLastListFull : MethodName := ⟨RX3, "isLastListFull", "()Z"⟩
abbrev cX3_addPart : ByteArray := prog_5_method_9_code
def yX3_addPart : MethodName := ⟨RX3, "addPart", "(JI)V"⟩
abbrev cX3_addRule : ByteArray := prog_5_method_10_code
def yX3_addRule : MethodName := ⟨RX3, "addRule", "(II)V"⟩
abbrev cX3_isListed : ByteArray := prog_5_method_11_code
def yX3_isListed : MethodName := ⟨RX3, "isListed", "(IJ)Z"⟩
abbrev cX3_isListedAnywhere : ByteArray := prog_5_method_12_code
def yX3_isListedAnywhere : MethodName := ⟨RX3, "isListedAnywhere", "(J)Z"⟩
abbrev cX3_find : ByteArray := prog_5_method_13_code
def yX3_find : MethodName := ⟨RX3, "find", "([JIJ)I"⟩
def RX4 : String := "ExamTour$Judge"
def TX4 : u_T := fun k => match k with
  | 0 => ("ExamTour$Judge", "points", "[I", true)
  | 1 => ("ExamTour$Judge", "stack", "[I", true)
  | _ => ("ExamTour$Judge", "height", "I", false)
def tyX4 : Nat → FieldType := fun k => match k with
  | 0 => .array .int
  | 1 => .array .int
  | _ => .int
abbrev wsX40 : List Cond := u_ws RX4 TX4 3
theorem nmX4 : ∀ a, a < 3 → ∀ b, b < 3 → a ≠ b → (TX4 a).2.1 ≠ (TX4 b).2.1 := by decide +kernel
theorem tyX4_ok : ∀ k, k < 3 → parseFieldDescriptor (TX4 k).2.2.1 = some (tyX4 k) := by decide +kernel
abbrev cX4_init : ByteArray := prog_6_method_1_code
def yX4_init : MethodName := ⟨RX4, "<init>", "()V"⟩
abbrev cX4_work : ByteArray := prog_6_method_2_code
def yX4_work : MethodName := ⟨RX4, "work", "(LExamTour$Syllabus;LExamTour$Grade;LExamTour$Entries;II)I"⟩
abbrev cX4_markLeaf : ByteArray := prog_6_method_3_code
def yX4_markLeaf : MethodName := ⟨RX4, "markLeaf", "(IILExamTour$Grade;)I"⟩
abbrev cX4_pieceLeaf : ByteArray := prog_6_method_4_code
def yX4_pieceLeaf : MethodName := ⟨RX4, "pieceLeaf", "(IILExamTour$Grade;LExamTour$Entries;I)I"⟩
abbrev cX4_total : ByteArray := prog_6_method_5_code
def yX4_total : MethodName := ⟨RX4, "total", "(I)I"⟩
abbrev cX4_least : ByteArray := prog_6_method_6_code
def yX4_least : MethodName := ⟨RX4, "least", "(I)I"⟩
abbrev cX4_join : ByteArray := prog_6_method_7_code
def yX4_join : MethodName := ⟨RX4, "join", "(III)I"⟩
abbrev cX4_push : ByteArray := prog_6_method_8_code
def yX4_push : MethodName := ⟨RX4, "push", "(I)V"⟩
abbrev cX4_pop : ByteArray := prog_6_method_9_code
def yX4_pop : MethodName := ⟨RX4, "pop", "()I"⟩
def RX5 : String := "ExamTour$Ledger"
def TX5 : u_T := fun k => match k with
  | 0 => ("ExamTour$Ledger", "day", "I", false)
  | 1 => ("ExamTour$Ledger", "count", "I", false)
  | 2 => ("ExamTour$Ledger", "entries", "[I", true)
  | 3 => ("ExamTour$Ledger", "tellers", "[I", true)
  | 4 => ("ExamTour$Ledger", "parts", "[I", true)
  | 5 => ("ExamTour$Ledger", "points", "[I", true)
  | 6 => ("ExamTour$Ledger", "toldOn", "[I", true)
  | 7 => ("ExamTour$Ledger", "untoldOn", "[I", true)
  | _ => ("ExamTour$Ledger", "gaps", "[I", true)
def tyX5 : Nat → FieldType := fun k => match k with
  | 0 => .int
  | 1 => .int
  | 2 => .array .int
  | 3 => .array .int
  | 4 => .array .int
  | 5 => .array .int
  | 6 => .array .int
  | 7 => .array .int
  | _ => .array .int
abbrev wsX50 : List Cond := u_ws RX5 TX5 9
theorem nmX5 : ∀ a, a < 9 → ∀ b, b < 9 → a ≠ b → (TX5 a).2.1 ≠ (TX5 b).2.1 := by decide +kernel
theorem tyX5_ok : ∀ k, k < 9 → parseFieldDescriptor (TX5 k).2.2.1 = some (tyX5 k) := by decide +kernel
abbrev cX5_init : ByteArray := prog_7_method_1_code
def yX5_init : MethodName := ⟨RX5, "<init>", "()V"⟩
abbrev cX5_tell : ByteArray := prog_7_method_2_code
def yX5_tell : MethodName := ⟨RX5, "tell", "(IIII)I"⟩
abbrev cX5_takeBack : ByteArray := prog_7_method_3_code
def yX5_takeBack : MethodName := ⟨RX5, "takeBack", "(I)Z"⟩
abbrev cX5_stands : ByteArray := prog_7_method_4_code
def yX5_stands : MethodName := ⟨RX5, "stands", "(I)Z"⟩
abbrev cX5_isKnown : ByteArray := prog_7_method_5_code
def yX5_isKnown : MethodName := ⟨RX5, "isKnown", "(II)Z"⟩
abbrev cX5_mainOf : ByteArray := prog_7_method_6_code
def yX5_mainOf : MethodName := ⟨RX5, "mainOf", "(II)I"⟩
abbrev cX5_knownPoints : ByteArray := prog_7_method_7_code
def yX5_knownPoints : MethodName := ⟨RX5, "knownPoints", "(III)I"⟩
abbrev cX5_lastOf : ByteArray := prog_7_method_8_code
def yX5_lastOf : MethodName := ⟨RX5, "lastOf", "(IIII)I"⟩
abbrev cX5_hardnessOf : ByteArray := prog_7_method_9_code
def yX5_hardnessOf : MethodName := ⟨RX5, "hardnessOf", "(II)I"⟩
abbrev cX5_insertGap : ByteArray := prog_7_method_10_code
def yX5_insertGap : MethodName := ⟨RX5, "insertGap", "(II)I"⟩
def RX6 : String := "ExamTour$Parser"
def TX6 : u_T := fun k => match k with
  | 0 => ("ExamTour$Parser", "tape", "LExamTour$Tokens;", true)
  | 1 => ("ExamTour$Parser", "fault", "I", false)
  | 2 => ("ExamTour$Parser", "place", "I", false)
  | 3 => ("ExamTour$Parser", "text", "LExamTour$Syllabus;", false)
  | 4 => ("ExamTour$Parser", "inMust", "Z", false)
  | _ => ("ExamTour$Parser", "leaves", "I", false)
def tyX6 : Nat → FieldType := fun k => match k with
  | 0 => .object "ExamTour$Tokens"
  | 1 => .int
  | 2 => .int
  | 3 => .object "ExamTour$Syllabus"
  | 4 => .boolean
  | _ => .int
abbrev wsX60 : List Cond := u_ws RX6 TX6 6
theorem nmX6 : ∀ a, a < 6 → ∀ b, b < 6 → a ≠ b → (TX6 a).2.1 ≠ (TX6 b).2.1 := by decide +kernel
theorem tyX6_ok : ∀ k, k < 6 → parseFieldDescriptor (TX6 k).2.2.1 = some (tyX6 k) := by decide +kernel
abbrev cX6_init : ByteArray := prog_8_method_1_code
def yX6_init : MethodName := ⟨RX6, "<init>", "()V"⟩
abbrev cX6_read : ByteArray := prog_8_method_2_code
def yX6_read : MethodName := ⟨RX6, "read", "()V"⟩
abbrev cX6_exchange : ByteArray := prog_8_method_3_code
def yX6_exchange : MethodName := ⟨RX6, "exchange", "(LExamTour$Syllabus;)LExamTour$Syllabus;"⟩
abbrev cX6_openGrade : ByteArray := prog_8_method_4_code
def yX6_openGrade : MethodName := ⟨RX6, "openGrade", "()LExamTour$Grade;"⟩
abbrev cX6_readItem : ByteArray := prog_8_method_5_code
def yX6_readItem : MethodName := ⟨RX6, "readItem", "(LExamTour$Grade;)V"⟩
abbrev cX6_cannotStartItem : ByteArray := prog_8_method_6_code
def yX6_cannotStartItem : MethodName := ⟨RX6, "cannotStartItem", "(LExamTour$Grade;)Z"⟩
abbrev cX6_readList : ByteArray := prog_8_method_7_code
def yX6_readList : MethodName := ⟨RX6, "readList", "(LExamTour$Grade;)V"⟩
abbrev cX6_readPart : ByteArray := prog_8_method_8_code
def yX6_readPart : MethodName := ⟨RX6, "readPart", "(LExamTour$Grade;)V"⟩
abbrev cX6_readE : ByteArray := prog_8_method_9_code
def yX6_readE : MethodName := ⟨RX6, "readE", "(LExamTour$Grade;I)V"⟩
abbrev cX6_readBoth : ByteArray := prog_8_method_10_code
def yX6_readBoth : MethodName := ⟨RX6, "readBoth", "(LExamTour$Grade;I)V"⟩
abbrev cX6_readOne : ByteArray := prog_8_method_11_code
def yX6_readOne : MethodName := ⟨RX6, "readOne", "(LExamTour$Grade;I)V"⟩
abbrev cX6_readCompared : ByteArray := prog_8_method_12_code
def yX6_readCompared : MethodName := ⟨RX6, "readCompared", "(LExamTour$Grade;I)V"⟩
abbrev cX6_readSum : ByteArray := prog_8_method_13_code
def yX6_readSum : MethodName := ⟨RX6, "readSum", "(LExamTour$Grade;I)V"⟩
abbrev cX6_readLeaf : ByteArray := prog_8_method_14_code
def yX6_readLeaf : MethodName := ⟨RX6, "readLeaf", "(LExamTour$Grade;I)V"⟩
abbrev cX6_isLeaf : ByteArray := prog_8_method_15_code
def yX6_isLeaf : MethodName := ⟨RX6, "isLeaf", "(I)Z"⟩
abbrev cX6_addMeaning : ByteArray := prog_8_method_16_code
def yX6_addMeaning : MethodName := ⟨RX6, "addMeaning", "(LExamTour$Grade;)V"⟩
abbrev cX6_addNamed : ByteArray := prog_8_method_17_code
def yX6_addNamed : MethodName := ⟨RX6, "addNamed", "(II)V"⟩
abbrev cX6_take : ByteArray := prog_8_method_18_code
def yX6_take : MethodName := ⟨RX6, "take", "(I)V"⟩
abbrev cX6_takeNumber : ByteArray := prog_8_method_19_code
def yX6_takeNumber : MethodName := ⟨RX6, "takeNumber", "(II)I"⟩
abbrev cX6_takeNewName : ByteArray := prog_8_method_20_code
def yX6_takeNewName : MethodName := ⟨RX6, "takeNewName", "(LExamTour$Grade;)J"⟩
abbrev cX6_takeListed : ByteArray := prog_8_method_21_code
def yX6_takeListed : MethodName := ⟨RX6, "takeListed", "(LExamTour$Grade;)V"⟩
abbrev cX6_refuse : ByteArray := prog_8_method_22_code
def yX6_refuse : MethodName := ⟨RX6, "refuse", "()V"⟩
abbrev cX6_fail : ByteArray := prog_8_method_23_code
def yX6_fail : MethodName := ⟨RX6, "fail", "(II)V"⟩
def RX7 : String := "ExamTour$Planner"
def TX7 : u_T := fun k => match k with
  | 0 => ("ExamTour$Planner", "chosen", "[I", true)
  | 1 => ("ExamTour$Planner", "allowed", "[Z", true)
  | 2 => ("ExamTour$Planner", "order", "[I", true)
  | 3 => ("ExamTour$Planner", "count", "I", false)
  | 4 => ("ExamTour$Planner", "countBefore", "I", false)
  | 5 => ("ExamTour$Planner", "where", "[I", false)
  | 6 => ("ExamTour$Planner", "whereBefore", "[I", false)
  | 7 => ("ExamTour$Planner", "worth", "[J", false)
  | _ => ("ExamTour$Planner", "worthBefore", "[J", false)
def tyX7 : Nat → FieldType := fun k => match k with
  | 0 => .array .int
  | 1 => .array .boolean
  | 2 => .array .int
  | 3 => .int
  | 4 => .int
  | 5 => .array .int
  | 6 => .array .int
  | 7 => .array .long
  | _ => .array .long
abbrev wsX70 : List Cond := u_ws RX7 TX7 9
theorem nmX7 : ∀ a, a < 9 → ∀ b, b < 9 → a ≠ b → (TX7 a).2.1 ≠ (TX7 b).2.1 := by decide +kernel
theorem tyX7_ok : ∀ k, k < 9 → parseFieldDescriptor (TX7 k).2.2.1 = some (tyX7 k) := by decide +kernel
abbrev cX7_init : ByteArray := prog_9_method_1_code
def yX7_init : MethodName := ⟨RX7, "<init>", "()V"⟩
abbrev cX7_allow : ByteArray := prog_9_method_2_code
def yX7_allow : MethodName := ⟨RX7, "allow", "(IIZ)V"⟩
abbrev cX7_plan : ByteArray := prog_9_method_3_code
def yX7_plan : MethodName := ⟨RX7, "plan", "(LExamTour$Circuit;)I"⟩
abbrev cX7_orderByDay : ByteArray := prog_9_method_4_code
def yX7_orderByDay : MethodName := ⟨RX7, "orderByDay", "(LExamTour$Circuit;)V"⟩
abbrev cX7_startDay : ByteArray := prog_9_method_5_code
def yX7_startDay : MethodName := ⟨RX7, "startDay", "(Z)V"⟩
abbrev cX7_sendAllHome : ByteArray := prog_9_method_6_code
def yX7_sendAllHome : MethodName := ⟨RX7, "sendAllHome", "()V"⟩
abbrev cX7_giveDay : ByteArray := prog_9_method_7_code
def yX7_giveDay : MethodName := ⟨RX7, "giveDay", "(LExamTour$Circuit;IIIJ)V"⟩
abbrev cX7_addState : ByteArray := prog_9_method_8_code
def yX7_addState : MethodName := ⟨RX7, "addState", "(LExamTour$Circuit;IJ)V"⟩
abbrev cX7_placeOf : ByteArray := prog_9_method_9_code
def yX7_placeOf : MethodName := ⟨RX7, "placeOf", "(II)I"⟩
abbrev cX7_costOf : ByteArray := prog_9_method_10_code
def yX7_costOf : MethodName := ⟨RX7, "costOf", "(LExamTour$Circuit;II)J"⟩
abbrev cX7_savedBetween : ByteArray := prog_9_method_11_code
def yX7_savedBetween : MethodName := ⟨RX7, "savedBetween", "(LExamTour$Circuit;II)J"⟩
abbrev cX7_choose : ByteArray := prog_9_method_12_code
def yX7_choose : MethodName := ⟨RX7, "choose", "(IJ)V"⟩
def RX8 : String := "ExamTour$Syllabus"
def TX8 : u_T := fun k => match k with
  | 0 => ("ExamTour$Syllabus", "grades", "[LExamTour$Grade;", true)
  | 1 => ("ExamTour$Syllabus", "cells", "[I", true)
  | 2 => ("ExamTour$Syllabus", "told", "I", false)
  | _ => ("ExamTour$Syllabus", "used", "I", false)
def tyX8 : Nat → FieldType := fun k => match k with
  | 0 => .array (.object "ExamTour$Grade")
  | 1 => .array .int
  | 2 => .int
  | _ => .int
abbrev wsX80 : List Cond := u_ws RX8 TX8 4
theorem nmX8 : ∀ a, a < 4 → ∀ b, b < 4 → a ≠ b → (TX8 a).2.1 ≠ (TX8 b).2.1 := by decide +kernel
theorem tyX8_ok : ∀ k, k < 4 → parseFieldDescriptor (TX8 k).2.2.1 = some (tyX8 k) := by decide +kernel
abbrev cX8_init : ByteArray := prog_10_method_1_code
def yX8_init : MethodName := ⟨RX8, "<init>", "()V"⟩
abbrev cX8_clear : ByteArray := prog_10_method_2_code
def yX8_clear : MethodName := ⟨RX8, "clear", "()V"⟩
abbrev cX8_open : ByteArray := prog_10_method_3_code
def yX8_open : MethodName := ⟨RX8, "open", "(I)LExamTour$Grade;"⟩
abbrev cX8_find : ByteArray := prog_10_method_4_code
def yX8_find : MethodName := ⟨RX8, "find", "(I)LExamTour$Grade;"⟩
abbrev cX8_addCell : ByteArray := prog_10_method_5_code
def yX8_addCell : MethodName := ⟨RX8, "addCell", "(II)V"⟩
def RX9 : String := "ExamTour$Tokens"
def TX9 : u_T := fun k => match k with
  | 0 => ("ExamTour$Tokens", "bytes", "[B", true)
  | 1 => ("ExamTour$Tokens", "length", "I", false)
  | 2 => ("ExamTour$Tokens", "kind", "I", false)
  | 3 => ("ExamTour$Tokens", "place", "I", false)
  | 4 => ("ExamTour$Tokens", "number", "I", false)
  | 5 => ("ExamTour$Tokens", "word", "J", false)
  | _ => ("ExamTour$Tokens", "at", "I", false)
def tyX9 : Nat → FieldType := fun k => match k with
  | 0 => .array .byte
  | 1 => .int
  | 2 => .int
  | 3 => .int
  | 4 => .int
  | 5 => .long
  | _ => .int
abbrev wsX90 : List Cond := u_ws RX9 TX9 7
theorem nmX9 : ∀ a, a < 7 → ∀ b, b < 7 → a ≠ b → (TX9 a).2.1 ≠ (TX9 b).2.1 := by decide +kernel
theorem tyX9_ok : ∀ k, k < 7 → parseFieldDescriptor (TX9 k).2.2.1 = some (tyX9 k) := by decide +kernel
abbrev cX9_init : ByteArray := prog_11_method_1_code
def yX9_init : MethodName := ⟨RX9, "<init>", "()V"⟩
abbrev cX9_append : ByteArray := prog_11_method_2_code
def yX9_append : MethodName := ⟨RX9, "append", "(I)V"⟩
abbrev cX9_rewind : ByteArray := prog_11_method_3_code
def yX9_rewind : MethodName := ⟨RX9, "rewind", "()V"⟩
abbrev cX9_next : ByteArray := prog_11_method_4_code
def yX9_next : MethodName := ⟨RX9, "next", "()V"⟩
abbrev cX9_readWord : ByteArray := prog_11_method_5_code
def yX9_readWord : MethodName := ⟨RX9, "readWord", "()V"⟩
abbrev cX9_readNumber : ByteArray := prog_11_method_6_code
def yX9_readNumber : MethodName := ⟨RX9, "readNumber", "()V"⟩
abbrev cX9_byteAt : ByteArray := prog_11_method_7_code
def yX9_byteAt : MethodName := ⟨RX9, "byteAt", "(I)I"⟩
abbrev cX9_kindOf : ByteArray := prog_11_method_8_code
def yX9_kindOf : MethodName := ⟨RX9, "kindOf", "(J)I"⟩
abbrev cX9_isWord : ByteArray := prog_11_method_9_code
def yX9_isWord : MethodName := ⟨RX9, "isWord", "(J)Z"⟩
abbrev cX9_isBlank : ByteArray := prog_11_method_10_code
def yX9_isBlank : MethodName := ⟨RX9, "isBlank", "(I)Z"⟩
abbrev cX9_isLetter : ByteArray := prog_11_method_11_code
def yX9_isLetter : MethodName := ⟨RX9, "isLetter", "(I)Z"⟩
abbrev cX9_isDigit : ByteArray := prog_11_method_12_code
def yX9_isDigit : MethodName := ⟨RX9, "isDigit", "(I)Z"⟩
abbrev cX9_isLetterOrDigit : ByteArray := prog_11_method_13_code
def yX9_isLetterOrDigit : MethodName := ⟨RX9, "isLetterOrDigit", "(I)Z"⟩
abbrev cX9_isSign : ByteArray := prog_11_method_14_code
def yX9_isSign : MethodName := ⟨RX9, "isSign", "(I)Z"⟩
def RX10 : String := "ExamTour"
def TX10 : u_T := fun k => match k with
  | 0 => ("ExamTour", "parser", "LExamTour$Parser;", true)
  | 1 => ("ExamTour", "texts", "[LExamTour$Syllabus;", true)
  | 2 => ("ExamTour", "bench", "LExamTour$Judge;", true)
  | 3 => ("ExamTour", "entries", "LExamTour$Entries;", true)
  | 4 => ("ExamTour", "circuit", "LExamTour$Circuit;", true)
  | 5 => ("ExamTour", "planner", "LExamTour$Planner;", true)
  | 6 => ("ExamTour", "ledger", "LExamTour$Ledger;", true)
  | _ => ("ExamTour", "certificates", "LExamTour$Certificates;", true)
def tyX10 : Nat → FieldType := fun k => match k with
  | 0 => .object "ExamTour$Parser"
  | 1 => .array (.object "ExamTour$Syllabus")
  | 2 => .object "ExamTour$Judge"
  | 3 => .object "ExamTour$Entries"
  | 4 => .object "ExamTour$Circuit"
  | 5 => .object "ExamTour$Planner"
  | 6 => .object "ExamTour$Ledger"
  | _ => .object "ExamTour$Certificates"
abbrev wsX100 : List Cond := u_ws RX10 TX10 8
theorem nmX10 : ∀ a, a < 8 → ∀ b, b < 8 → a ≠ b → (TX10 a).2.1 ≠ (TX10 b).2.1 := by decide +kernel
theorem tyX10_ok : ∀ k, k < 8 → parseFieldDescriptor (TX10 k).2.2.1 = some (tyX10 k) := by decide +kernel
abbrev cX10_init : ByteArray := prog_1_method_1_code
def yX10_init : MethodName := ⟨RX10, "<init>", "()V"⟩
abbrev cX10_feed : ByteArray := prog_1_method_2_code
def yX10_feed : MethodName := ⟨RX10, "feed", "(IIIII)I"⟩
abbrev cX10_end : ByteArray := prog_1_method_3_code
def yX10_end : MethodName := ⟨RX10, "end", "(I)I"⟩
abbrev cX10_syllabus : ByteArray := prog_1_method_4_code
def yX10_syllabus : MethodName := ⟨RX10, "syllabus", "(I)I"⟩
abbrev cX10_fault : ByteArray := prog_1_method_5_code
def yX10_fault : MethodName := ⟨RX10, "fault", "(I)I"⟩
abbrev cX10_grade : ByteArray := prog_1_method_6_code
def yX10_grade : MethodName := ⟨RX10, "grade", "(III)I"⟩
abbrev cX10_entry : ByteArray := prog_1_method_7_code
def yX10_entry : MethodName := ⟨RX10, "entry", "(IIIIII)I"⟩
abbrev cX10_piece : ByteArray := prog_1_method_8_code
def yX10_piece : MethodName := ⟨RX10, "piece", "(IJ)I"⟩
abbrev cX10_judge : ByteArray := prog_1_method_9_code
def yX10_judge : MethodName := ⟨RX10, "judge", "(I)I"⟩
abbrev cX10_centre : ByteArray := prog_1_method_10_code
def yX10_centre : MethodName := ⟨RX10, "centre", "()I"⟩
abbrev cX10_way : ByteArray := prog_1_method_11_code
def yX10_way : MethodName := ⟨RX10, "way", "(III)Z"⟩
abbrev cX10_examiner : ByteArray := prog_1_method_12_code
def yX10_examiner : MethodName := ⟨RX10, "examiner", "(II)I"⟩
abbrev cX10_session : ByteArray := prog_1_method_13_code
def yX10_session : MethodName := ⟨RX10, "session", "(II)I"⟩
abbrev cX10_put : ByteArray := prog_1_method_14_code
def yX10_put : MethodName := ⟨RX10, "put", "(II)Z"⟩
abbrev cX10_of : ByteArray := prog_1_method_15_code
def yX10_of : MethodName := ⟨RX10, "of", "(II)I"⟩
abbrev cX10_may : ByteArray := prog_1_method_16_code
def yX10_may : MethodName := ⟨RX10, "may", "(II)I"⟩
abbrev cX10_tour : ByteArray := prog_1_method_17_code
def yX10_tour : MethodName := ⟨RX10, "tour", "()I"⟩
abbrev cX10_toured : ByteArray := prog_1_method_18_code
def yX10_toured : MethodName := ⟨RX10, "toured", "(I)I"⟩
abbrev cX10_stuck : ByteArray := prog_1_method_19_code
def yX10_stuck : MethodName := ⟨RX10, "stuck", "()I"⟩
abbrev cX10_later : ByteArray := prog_1_method_20_code
def yX10_later : MethodName := ⟨RX10, "later", "(I)I"⟩
abbrev cX10_mark : ByteArray := prog_1_method_21_code
def yX10_mark : MethodName := ⟨RX10, "mark", "(IIII)I"⟩
abbrev cX10_appeal : ByteArray := prog_1_method_22_code
def yX10_appeal : MethodName := ⟨RX10, "appeal", "(III)I"⟩
abbrev cX10_untell : ByteArray := prog_1_method_23_code
def yX10_untell : MethodName := ⟨RX10, "untell", "(I)Z"⟩
abbrev cX10_known : ByteArray := prog_1_method_24_code
def yX10_known : MethodName := ⟨RX10, "known", "(III)I"⟩
abbrev cX10_main : ByteArray := prog_1_method_25_code
def yX10_main : MethodName := ⟨RX10, "main", "(II)I"⟩
abbrev cX10_result : ByteArray := prog_1_method_26_code
def yX10_result : MethodName := ⟨RX10, "result", "(II)I"⟩
abbrev cX10_hardness : ByteArray := prog_1_method_27_code
def yX10_hardness : MethodName := ⟨RX10, "hardness", "(I)I"⟩
abbrev cX10_certify : ByteArray := prog_1_method_28_code
def yX10_certify : MethodName := ⟨RX10, "certify", "(I)I"⟩
abbrev cX10_certificate : ByteArray := prog_1_method_29_code
def yX10_certificate : MethodName := ⟨RX10, "certificate", "(II)I"⟩
abbrev cX10_holds : ByteArray := prog_1_method_30_code
def yX10_holds : MethodName := ⟨RX10, "holds", "(II)I"⟩
abbrev cX10_about : ByteArray := prog_1_method_31_code
def yX10_about : MethodName := ⟨RX10, "about", "(I)I"⟩
abbrev cX10_isWithin : ByteArray := prog_1_method_32_code
def yX10_isWithin : MethodName := ⟨RX10, "isWithin", "(III)Z"⟩
abbrev cX10_isTerm : ByteArray := prog_1_method_33_code
def yX10_isTerm : MethodName := ⟨RX10, "isTerm", "(I)Z"⟩
abbrev cX10_gradesOf : ByteArray := prog_1_method_34_code
def yX10_gradesOf : MethodName := ⟨RX10, "gradesOf", "(I)I"⟩
abbrev cX10_findGrade : ByteArray := prog_1_method_35_code
def yX10_findGrade : MethodName := ⟨RX10, "findGrade", "(II)LExamTour$Grade;"⟩
abbrev cX10_gradeOf : ByteArray := prog_1_method_36_code
def yX10_gradeOf : MethodName := ⟨RX10, "gradeOf", "(I)LExamTour$Grade;"⟩
abbrev cX10_firstUnmet : ByteArray := prog_1_method_37_code
def yX10_firstUnmet : MethodName := ⟨RX10, "firstUnmet", "(I)I"⟩
abbrev cX10_resultOf : ByteArray := prog_1_method_38_code
def yX10_resultOf : MethodName := ⟨RX10, "resultOf", "(II)I"⟩
abbrev cX10_canBeMarked : ByteArray := prog_1_method_39_code
def yX10_canBeMarked : MethodName := ⟨RX10, "canBeMarked", "(III)Z"⟩
abbrev cX10_minutesOf : ByteArray := prog_1_method_40_code
def yX10_minutesOf : MethodName := ⟨RX10, "minutesOf", "(I)I"⟩
abbrev cX10_minutesWith : ByteArray := prog_1_method_41_code
def yX10_minutesWith : MethodName := ⟨RX10, "minutesWith", "(II)I"⟩
abbrev cX10_canBeTaken : ByteArray := prog_1_method_42_code
def yX10_canBeTaken : MethodName := ⟨RX10, "canBeTaken", "(I)Z"⟩
abbrev cX10_mayTake : ByteArray := prog_1_method_43_code
def yX10_mayTake : MethodName := ⟨RX10, "mayTake", "(II)Z"⟩
abbrev cX10_mayHear : ByteArray := prog_1_method_44_code
def yX10_mayHear : MethodName := ⟨RX10, "mayHear", "(II)Z"⟩
abbrev cX10_heardElsewhere : ByteArray := prog_1_method_45_code
def yX10_heardElsewhere : MethodName := ⟨RX10, "heardElsewhere", "(II)Z"⟩
def RX11 : String := "ExamTourModel"
def TX11 : u_T := fun k => match k with
  | 0 => ("ExamTourModel", "tape", "[B", true)
  | 1 => ("ExamTourModel", "text", "[B", true)
  | 2 => ("ExamTourModel", "taped", "I", false)
  | 3 => ("ExamTourModel", "size", "I", false)
  | 4 => ("ExamTourModel", "faultKind", "I", false)
  | 5 => ("ExamTourModel", "faultPlace", "I", false)
  | 6 => ("ExamTourModel", "at", "I", false)
  | 7 => ("ExamTourModel", "end", "I", false)
  | 8 => ("ExamTourModel", "token", "I", false)
  | 9 => ("ExamTourModel", "number", "I", false)
  | 10 => ("ExamTourModel", "name", "J", false)
  | 11 => ("ExamTourModel", "bankOf", "[I", true)
  | 12 => ("ExamTourModel", "spare", "I", false)
  | 13 => ("ExamTourModel", "leaves", "I", false)
  | 14 => ("ExamTourModel", "codes", "I", false)
  | 15 => ("ExamTourModel", "hasText", "[Z", true)
  | 16 => ("ExamTourModel", "isTold", "[Z", true)
  | 17 => ("ExamTourModel", "lists", "[I", true)
  | 18 => ("ExamTourModel", "pieces", "[I", true)
  | 19 => ("ExamTourModel", "parts", "[I", true)
  | 20 => ("ExamTourModel", "most", "[I", true)
  | 21 => ("ExamTourModel", "musts", "[I", true)
  | 22 => ("ExamTourModel", "minutes", "[I", true)
  | 23 => ("ExamTourModel", "mustFrom", "[I", true)
  | 24 => ("ExamTourModel", "mustTo", "[I", true)
  | 25 => ("ExamTourModel", "passFrom", "[I", true)
  | 26 => ("ExamTourModel", "passTo", "[I", true)
  | 27 => ("ExamTourModel", "meritFrom", "[I", true)
  | 28 => ("ExamTourModel", "meritTo", "[I", true)
  | 29 => ("ExamTourModel", "code", "[I", true)
  | 30 => ("ExamTourModel", "codeNumber", "[I", true)
  | 31 => ("ExamTourModel", "gradeMany", "[I", true)
  | 32 => ("ExamTourModel", "listName", "[J", true)
  | 33 => ("ExamTourModel", "pieceName", "[J", true)
  | 34 => ("ExamTourModel", "partName", "[J", true)
  | 35 => ("ExamTourModel", "eWhat", "[I", true)
  | 36 => ("ExamTourModel", "eSign", "[I", true)
  | 37 => ("ExamTourModel", "piled", "I", false)
  | 38 => ("ExamTourModel", "deep", "I", false)
  | 39 => ("ExamTourModel", "nCandidate", "[I", true)
  | 40 => ("ExamTourModel", "nTerm", "[I", true)
  | 41 => ("ExamTourModel", "nGrade", "[I", true)
  | 42 => ("ExamTourModel", "nInstrument", "[I", true)
  | 43 => ("ExamTourModel", "nAge", "[I", true)
  | 44 => ("ExamTourModel", "nTeacher", "[I", true)
  | 45 => ("ExamTourModel", "nPieces", "[I", true)
  | 46 => ("ExamTourModel", "nSession", "[I", true)
  | 47 => ("ExamTourModel", "nPiece", "[J", true)
  | 48 => ("ExamTourModel", "entries", "I", false)
  | 49 => ("ExamTourModel", "values", "[I", true)
  | 50 => ("ExamTourModel", "marksNow", "[I", true)
  | 51 => ("ExamTourModel", "ways", "[I", true)
  | 52 => ("ExamTourModel", "home", "[I", true)
  | 53 => ("ExamTourModel", "instruments", "[I", true)
  | 54 => ("ExamTourModel", "sCentre", "[I", true)
  | 55 => ("ExamTourModel", "sDay", "[I", true)
  | 56 => ("ExamTourModel", "centres", "I", false)
  | 57 => ("ExamTourModel", "examiners", "I", false)
  | 58 => ("ExamTourModel", "sessions", "I", false)
  | 59 => ("ExamTourModel", "costs", "[I", true)
  | 60 => ("ExamTourModel", "least", "[I", true)
  | 61 => ("ExamTourModel", "fixed", "[I", true)
  | 62 => ("ExamTourModel", "toured", "[I", true)
  | 63 => ("ExamTourModel", "touredMany", "I", false)
  | 64 => ("ExamTourModel", "mEntry", "[I", true)
  | 65 => ("ExamTourModel", "mBy", "[I", true)
  | 66 => ("ExamTourModel", "mPart", "[I", true)
  | 67 => ("ExamTourModel", "mMarks", "[I", true)
  | 68 => ("ExamTourModel", "mTold", "[I", true)
  | 69 => ("ExamTourModel", "mUntold", "[I", true)
  | 70 => ("ExamTourModel", "marks", "I", false)
  | 71 => ("ExamTourModel", "day", "I", false)
  | 72 => ("ExamTourModel", "apart", "[I", true)
  | 73 => ("ExamTourModel", "cEntry", "[I", true)
  | 74 => ("ExamTourModel", "cDay", "[I", true)
  | 75 => ("ExamTourModel", "cResult", "[I", true)
  | _ => ("ExamTourModel", "certificates", "I", false)
def tyX11 : Nat → FieldType := fun k => match k with
  | 0 => .array .byte
  | 1 => .array .byte
  | 2 => .int
  | 3 => .int
  | 4 => .int
  | 5 => .int
  | 6 => .int
  | 7 => .int
  | 8 => .int
  | 9 => .int
  | 10 => .long
  | 11 => .array .int
  | 12 => .int
  | 13 => .int
  | 14 => .int
  | 15 => .array .boolean
  | 16 => .array .boolean
  | 17 => .array .int
  | 18 => .array .int
  | 19 => .array .int
  | 20 => .array .int
  | 21 => .array .int
  | 22 => .array .int
  | 23 => .array .int
  | 24 => .array .int
  | 25 => .array .int
  | 26 => .array .int
  | 27 => .array .int
  | 28 => .array .int
  | 29 => .array .int
  | 30 => .array .int
  | 31 => .array .int
  | 32 => .array .long
  | 33 => .array .long
  | 34 => .array .long
  | 35 => .array .int
  | 36 => .array .int
  | 37 => .int
  | 38 => .int
  | 39 => .array .int
  | 40 => .array .int
  | 41 => .array .int
  | 42 => .array .int
  | 43 => .array .int
  | 44 => .array .int
  | 45 => .array .int
  | 46 => .array .int
  | 47 => .array .long
  | 48 => .int
  | 49 => .array .int
  | 50 => .array .int
  | 51 => .array .int
  | 52 => .array .int
  | 53 => .array .int
  | 54 => .array .int
  | 55 => .array .int
  | 56 => .int
  | 57 => .int
  | 58 => .int
  | 59 => .array .int
  | 60 => .array .int
  | 61 => .array .int
  | 62 => .array .int
  | 63 => .int
  | 64 => .array .int
  | 65 => .array .int
  | 66 => .array .int
  | 67 => .array .int
  | 68 => .array .int
  | 69 => .array .int
  | 70 => .int
  | 71 => .int
  | 72 => .array .int
  | 73 => .array .int
  | 74 => .array .int
  | 75 => .array .int
  | _ => .int
abbrev wsX110 : List Cond := u_ws RX11 TX11 77
theorem nmX11 : ∀ a, a < 77 → ∀ b, b < 77 → a ≠ b → (TX11 a).2.1 ≠ (TX11 b).2.1 := by decide +kernel
theorem tyX11_ok : ∀ k, k < 77 → parseFieldDescriptor (TX11 k).2.2.1 = some (tyX11 k) := by decide +kernel
abbrev cX11_sign : ByteArray := prog_13_method_1_code
def yX11_sign : MethodName := ⟨RX11, "sign", "(I)I"⟩
abbrev cX11_isLetter : ByteArray := prog_13_method_2_code
def yX11_isLetter : MethodName := ⟨RX11, "isLetter", "(I)Z"⟩
abbrev cX11_isDigit : ByteArray := prog_13_method_3_code
def yX11_isDigit : MethodName := ⟨RX11, "isDigit", "(I)Z"⟩
abbrev cX11_fails : ByteArray := prog_13_method_4_code
def yX11_fails : MethodName := ⟨RX11, "fails", "(II)V"⟩
abbrev cX11_isGood : ByteArray := prog_13_method_5_code
def yX11_isGood : MethodName := ⟨RX11, "isGood", "()Z"⟩
abbrev cX11_isMeant : ByteArray := prog_13_method_6_code
def yX11_isMeant : MethodName := ⟨RX11, "isMeant", "(J)Z"⟩
abbrev cX11_isKept : ByteArray := prog_13_method_7_code
def yX11_isKept : MethodName := ⟨RX11, "isKept", "(J)Z"⟩
abbrev cX11_next : ByteArray := prog_13_method_8_code
def yX11_next : MethodName := ⟨RX11, "next", "()V"⟩
abbrev cX11_is : ByteArray := prog_13_method_9_code
def yX11_is : MethodName := ⟨RX11, "is", "(I)Z"⟩
abbrev cX11_isWord : ByteArray := prog_13_method_10_code
def yX11_isWord : MethodName := ⟨RX11, "isWord", "(J)Z"⟩
abbrev cX11_wrong : ByteArray := prog_13_method_11_code
def yX11_wrong : MethodName := ⟨RX11, "wrong", "()V"⟩
abbrev cX11_must : ByteArray := prog_13_method_12_code
def yX11_must : MethodName := ⟨RX11, "must", "(I)V"⟩
abbrev cX11_numberOf : ByteArray := prog_13_method_13_code
def yX11_numberOf : MethodName := ⟨RX11, "numberOf", "(II)I"⟩
abbrev cX11_init : ByteArray := prog_13_method_14_code
def yX11_init : MethodName := ⟨RX11, "<init>", "()V"⟩
abbrev cX11_listOf : ByteArray := prog_13_method_15_code
def yX11_listOf : MethodName := ⟨RX11, "listOf", "(IJ)I"⟩
abbrev cX11_partOf : ByteArray := prog_13_method_16_code
def yX11_partOf : MethodName := ⟨RX11, "partOf", "(IJ)I"⟩
abbrev cX11_hasPiece : ByteArray := prog_13_method_17_code
def yX11_hasPiece : MethodName := ⟨RX11, "hasPiece", "(IJ)Z"⟩
abbrev cX11_syllabus : ByteArray := prog_13_method_18_code
def yX11_syllabus : MethodName := ⟨RX11, "syllabus", "(I)I"⟩
abbrev cX11_readGrade : ByteArray := prog_13_method_19_code
def yX11_readGrade : MethodName := ⟨RX11, "readGrade", "()V"⟩
abbrev cX11_readItem : ByteArray := prog_13_method_20_code
def yX11_readItem : MethodName := ⟨RX11, "readItem", "(I)V"⟩
abbrev cX11_canName : ByteArray := prog_13_method_21_code
def yX11_canName : MethodName := ⟨RX11, "canName", "(I)Z"⟩
abbrev cX11_readList : ByteArray := prog_13_method_22_code
def yX11_readList : MethodName := ⟨RX11, "readList", "(I)V"⟩
abbrev cX11_readPart : ByteArray := prog_13_method_23_code
def yX11_readPart : MethodName := ⟨RX11, "readPart", "(I)V"⟩
abbrev cX11_step : ByteArray := prog_13_method_24_code
def yX11_step : MethodName := ⟨RX11, "step", "(II)V"⟩
abbrev cX11_pile : ByteArray := prog_13_method_25_code
def yX11_pile : MethodName := ⟨RX11, "pile", "(II)V"⟩
abbrev cX11_e : ByteArray := prog_13_method_26_code
def yX11_e : MethodName := ⟨RX11, "e", "(IZ)V"⟩
abbrev cX11_value : ByteArray := prog_13_method_27_code
def yX11_value : MethodName := ⟨RX11, "value", "(IIZ)I"⟩
abbrev cX11_meant : ByteArray := prog_13_method_28_code
def yX11_meant : MethodName := ⟨RX11, "meant", "(IZ)V"⟩
abbrev cX11_rankHere : ByteArray := prog_13_method_29_code
def yX11_rankHere : MethodName := ⟨RX11, "rankHere", "()I"⟩
abbrev cX11_behind : ByteArray := prog_13_method_30_code
def yX11_behind : MethodName := ⟨RX11, "behind", "()I"⟩
abbrev cX11_fault : ByteArray := prog_13_method_31_code
def yX11_fault : MethodName := ⟨RX11, "fault", "(I)I"⟩
abbrev cX11_spot : ByteArray := prog_13_method_32_code
def yX11_spot : MethodName := ⟨RX11, "spot", "(II)I"⟩
abbrev cX11_minutesOf : ByteArray := prog_13_method_33_code
def yX11_minutesOf : MethodName := ⟨RX11, "minutesOf", "(I)I"⟩
abbrev cX11_grade : ByteArray := prog_13_method_34_code
def yX11_grade : MethodName := ⟨RX11, "grade", "(III)I"⟩
abbrev cX11_isEntry : ByteArray := prog_13_method_35_code
def yX11_isEntry : MethodName := ⟨RX11, "isEntry", "(I)Z"⟩
abbrev cX11_entry : ByteArray := prog_13_method_36_code
def yX11_entry : MethodName := ⟨RX11, "entry", "(IIIIII)I"⟩
abbrev cX11_isName : ByteArray := prog_13_method_37_code
def yX11_isName : MethodName := ⟨RX11, "isName", "(J)Z"⟩
abbrev cX11_piece : ByteArray := prog_13_method_38_code
def yX11_piece : MethodName := ⟨RX11, "piece", "(IJ)I"⟩
abbrev cX11_spotOf : ByteArray := prog_13_method_39_code
def yX11_spotOf : MethodName := ⟨RX11, "spotOf", "(I)I"⟩
abbrev cX11_inList : ByteArray := prog_13_method_40_code
def yX11_inList : MethodName := ⟨RX11, "inList", "(II)I"⟩
abbrev cX11_inNone : ByteArray := prog_13_method_41_code
def yX11_inNone : MethodName := ⟨RX11, "inNone", "(II)I"⟩
abbrev cX11_work : ByteArray := prog_13_method_42_code
def yX11_work : MethodName := ⟨RX11, "work", "(IIII)I"⟩
abbrev cX11_leaf : ByteArray := prog_13_method_43_code
def yX11_leaf : MethodName := ⟨RX11, "leaf", "(IIII)I"⟩
abbrev cX11_total : ByteArray := prog_13_method_44_code
def yX11_total : MethodName := ⟨RX11, "total", "(I)I"⟩
abbrev cX11_leastMark : ByteArray := prog_13_method_45_code
def yX11_leastMark : MethodName := ⟨RX11, "leastMark", "(I)I"⟩
abbrev cX11_two : ByteArray := prog_13_method_46_code
def yX11_two : MethodName := ⟨RX11, "two", "(III)I"⟩
abbrev cX11_judge : ByteArray := prog_13_method_47_code
def yX11_judge : MethodName := ⟨RX11, "judge", "(I)I"⟩
abbrev cX11_centre : ByteArray := prog_13_method_48_code
def yX11_centre : MethodName := ⟨RX11, "centre", "()I"⟩
abbrev cX11_isCentre : ByteArray := prog_13_method_49_code
def yX11_isCentre : MethodName := ⟨RX11, "isCentre", "(I)Z"⟩
abbrev cX11_way : ByteArray := prog_13_method_50_code
def yX11_way : MethodName := ⟨RX11, "way", "(III)Z"⟩
abbrev cX11_examiner : ByteArray := prog_13_method_51_code
def yX11_examiner : MethodName := ⟨RX11, "examiner", "(II)I"⟩
abbrev cX11_isExaminer : ByteArray := prog_13_method_52_code
def yX11_isExaminer : MethodName := ⟨RX11, "isExaminer", "(I)Z"⟩
abbrev cX11_session : ByteArray := prog_13_method_53_code
def yX11_session : MethodName := ⟨RX11, "session", "(II)I"⟩
abbrev cX11_isSession : ByteArray := prog_13_method_54_code
def yX11_isSession : MethodName := ⟨RX11, "isSession", "(I)Z"⟩
abbrev cX11_minutesIn : ByteArray := prog_13_method_55_code
def yX11_minutesIn : MethodName := ⟨RX11, "minutesIn", "(II)I"⟩
abbrev cX11_put : ByteArray := prog_13_method_56_code
def yX11_put : MethodName := ⟨RX11, "put", "(II)Z"⟩
abbrev cX11_of : ByteArray := prog_13_method_57_code
def yX11_of : MethodName := ⟨RX11, "of", "(II)I"⟩
abbrev cX11_hasHeard : ByteArray := prog_13_method_58_code
def yX11_hasHeard : MethodName := ⟨RX11, "hasHeard", "(II)Z"⟩
abbrev cX11_mayTake : ByteArray := prog_13_method_59_code
def yX11_mayTake : MethodName := ⟨RX11, "mayTake", "(II)Z"⟩
abbrev cX11_may : ByteArray := prog_13_method_60_code
def yX11_may : MethodName := ⟨RX11, "may", "(II)I"⟩
abbrev cX11_stuck : ByteArray := prog_13_method_61_code
def yX11_stuck : MethodName := ⟨RX11, "stuck", "()I"⟩
abbrev cX11_nextOf : ByteArray := prog_13_method_62_code
def yX11_nextOf : MethodName := ⟨RX11, "nextOf", "(II)I"⟩
abbrev cX11_travel : ByteArray := prog_13_method_63_code
def yX11_travel : MethodName := ⟨RX11, "travel", "(II)I"⟩
abbrev cX11_agrees : ByteArray := prog_13_method_64_code
def yX11_agrees : MethodName := ⟨RX11, "agrees", "(II)Z"⟩
abbrev cX11_solve : ByteArray := prog_13_method_65_code
def yX11_solve : MethodName := ⟨RX11, "solve", "()I"⟩
abbrev cX11_tour : ByteArray := prog_13_method_66_code
def yX11_tour : MethodName := ⟨RX11, "tour", "()I"⟩
abbrev cX11_toured : ByteArray := prog_13_method_67_code
def yX11_toured : MethodName := ⟨RX11, "toured", "(I)I"⟩
abbrev cX11_later : ByteArray := prog_13_method_68_code
def yX11_later : MethodName := ⟨RX11, "later", "(I)I"⟩
abbrev cX11_tell : ByteArray := prog_13_method_69_code
def yX11_tell : MethodName := ⟨RX11, "tell", "(IIII)I"⟩
abbrev cX11_mark : ByteArray := prog_13_method_70_code
def yX11_mark : MethodName := ⟨RX11, "mark", "(IIII)I"⟩
abbrev cX11_appeal : ByteArray := prog_13_method_71_code
def yX11_appeal : MethodName := ⟨RX11, "appeal", "(III)I"⟩
abbrev cX11_untell : ByteArray := prog_13_method_72_code
def yX11_untell : MethodName := ⟨RX11, "untell", "(I)Z"⟩
abbrev cX11_isKnown : ByteArray := prog_13_method_73_code
def yX11_isKnown : MethodName := ⟨RX11, "isKnown", "(II)Z"⟩
abbrev cX11_main : ByteArray := prog_13_method_74_code
def yX11_main : MethodName := ⟨RX11, "main", "(II)I"⟩
abbrev cX11_lastOf : ByteArray := prog_13_method_75_code
def yX11_lastOf : MethodName := ⟨RX11, "lastOf", "(IIII)I"⟩
abbrev cX11_known : ByteArray := prog_13_method_76_code
def yX11_known : MethodName := ⟨RX11, "known", "(III)I"⟩
abbrev cX11_result : ByteArray := prog_13_method_77_code
def yX11_result : MethodName := ⟨RX11, "result", "(II)I"⟩
abbrev cX11_hardness : ByteArray := prog_13_method_78_code
def yX11_hardness : MethodName := ⟨RX11, "hardness", "(I)I"⟩
abbrev cX11_doesHold : ByteArray := prog_13_method_79_code
def yX11_doesHold : MethodName := ⟨RX11, "doesHold", "(II)Z"⟩
abbrev cX11_certify : ByteArray := prog_13_method_80_code
def yX11_certify : MethodName := ⟨RX11, "certify", "(I)I"⟩
abbrev cX11_certificate : ByteArray := prog_13_method_81_code
def yX11_certificate : MethodName := ⟨RX11, "certificate", "(II)I"⟩
abbrev cX11_holds : ByteArray := prog_13_method_82_code
def yX11_holds : MethodName := ⟨RX11, "holds", "(II)I"⟩
abbrev cX11_about : ByteArray := prog_13_method_83_code
def yX11_about : MethodName := ⟨RX11, "about", "(I)I"⟩
abbrev cX11_feed : ByteArray := prog_13_method_84_code
def yX11_feed : MethodName := ⟨RX11, "feed", "(IIIII)I"⟩
abbrev cX11_end : ByteArray := prog_13_method_85_code
def yX11_end : MethodName := ⟨RX11, "end", "(I)I"⟩
def RJ9 : String := "java/lang/Math"
def TJ9 : u_T := fun k => match k with
  | _ => ("", "", "", false)
def tyJ9 : Nat → FieldType := fun k => match k with
  | _ => .int
abbrev wsJ90 : List Cond := u_ws RJ9 TJ9 0
theorem nmJ9 : ∀ a, a < 0 → ∀ b, b < 0 → a ≠ b → (TJ9 a).2.1 ≠ (TJ9 b).2.1 := by decide +kernel
theorem tyJ9_ok : ∀ k, k < 0 → parseFieldDescriptor (TJ9 k).2.2.1 = some (tyJ9 k) := by decide +kernel
abbrev cJ9_max_7cf53 : ByteArray := prog_14_method_65_code
def yJ9_max_7cf53 : MethodName := ⟨RJ9, "max", "(II)I"⟩
abbrev cJ9_min_7cf53 : ByteArray := prog_14_method_69_code
def yJ9_min_7cf53 : MethodName := ⟨RJ9, "min", "(II)I"⟩
abbrev cJ9_min_f86c9 : ByteArray := prog_14_method_70_code
def yJ9_min_f86c9 : MethodName := ⟨RJ9, "min", "(JJ)J"⟩
def RL : String := "ExamTourLaw"
abbrev cL_law : ByteArray := code
abbrev vwCl : List vw_C := [(RX0, TX0, 4), (RX1, TX1, 8), (RX2, TX2, 10), (RX3, TX3, 13), (RX4, TX4, 3), (RX5, TX5, 9), (RX6, TX6, 6), (RX7, TX7, 9), (RX8, TX8, 4), (RX9, TX9, 7), (RX10, TX10, 8), (RX11, TX11, 77)]
end
section
/-! An abstract heap: cells by small numbers (0: the script, 1: the static array of words, 2 and on: what was made, in the order of making).
A judgement ax_J over it: from every machine state that the abstract one stands for, the machine comes to Z. One rule an instruction. -/
abbrev ax_C : Type := (Nat × Nat × (Nat → Value)) ⊕ (Nat × (Nat → Value))
abbrev ax_H : Type := Nat × (Nat → ax_C)
def ax_v (g : Nat → Nat) (v : Value) : Value := match v with
  | .ref k => .ref (g k)
  | w => w
theorem ax_cat (g : Nat → Nat) (v : Value) : (ax_v g v).category = v.category := by cases v <;> rfl
def ax_ty (t : Nat) : FieldType := match t with
  | 0 => .int
  | 1 => .long
  | 2 => .byte
  | 3 => .boolean
  | 4 => .object "ExamTour$Syllabus"
  | _ => .object "ExamTour$Grade"
def ax_G (g : Nat → Nat) : Prop := (∀ k, 2 ≤ k → g (k + 1) = g k + 1) ∧ g 0 < g 2 ∧ g 1 < g 2
theorem ax_G.add {g : Nat → Nat} (h : ax_G g) : ∀ k, g (2 + k) = g 2 + k
  | 0 => rfl
  | k + 1 => by
    have := h.1 (2 + k) (by omega)
    rw [← Nat.add_assoc, this, ax_G.add h k]
    rfl
theorem ax_G.at {g : Nat → Nat} (h : ax_G g) {k : Nat} (hk : 2 ≤ k) : g k = g 2 + (k - 2) := by
  have := h.add (k - 2)
  rwa [show 2 + (k - 2) = k by omega] at this
theorem ax_G.ge {g : Nat → Nat} (h : ax_G g) {k : Nat} (hk : 2 ≤ k) : g 2 ≤ g k := by rw [h.at hk]; omega
theorem ax_G.ne {g : Nat → Nat} (h : ax_G g) {j k : Nat} (hk : 2 ≤ k) (hj : j ≠ k) : g j ≠ g k := by
  by_cases h2 : 2 ≤ j
  · rw [h.at h2, h.at hk]; omega
  · have h3 := h.ge hk
    have h4 := h.2
    rcases (show j = 0 ∨ j = 1 by omega) with rfl | rfl <;> omega
/-- is there a cell -/
def ax_pr (c : ax_C) : Prop := match c with
  | .inl (t, _, _) => t < 6
  | .inr (ci, _) => ci < 12
def ax_at (D : va_G) (g : Nat → Nat) (U : State) (H : Heap) (a : Nat) (c : ax_C) : Prop := match c with
  | .inl (t, n, f) => ∃ cell : Cell, H[a]? = some cell ∧ U.isArrayOf cell (ax_ty t) ∧ cell.vm ≠ .unknown ∧ (4 ≤ t → va_RA U cell.cls (ax_ty t)) ∧ n ≤ cell.slots.size ∧ cell.slots.size.toInt32 = Int32.ofNat n ∧ ∀ j, j < n → cell.slots[j]? = some (ax_v g (f j))
  | .inr (ci, fs) => ∃ r : vw_C, vwCl[ci]? = some r ∧ t_OB a (D.1 ci) r.2.2 (D.2 ci) H (fun k => ax_v g (fs k))
def ax_R (D : va_G) (g : Nat → Nat) (U : State) (h : ax_H) (H : Heap) : Prop := H.size = g h.1 ∧ 2 ≤ h.1 ∧ ∀ k, ax_pr (h.2 k) → ax_at D g U H (g k) (h.2 k)
theorem ax_at.moved {D : va_G} {g : Nat → Nat} {u U : State} {H : Heap} {a : Nat} {c : ax_C} (hvm : u.vm.Alike U.vm) (h : ax_at D g u H a c) : ax_at D g U H a c := by
  rcases c with ⟨t, n, f⟩ | ⟨ci, fs⟩
  · obtain ⟨cell, h1, h2, h3, h4, h5⟩ := h
    exact ⟨cell, h1, State.isArrayOf_alike hvm h2, h3, fun q => (h4 q).moved hvm, h5⟩
  · exact h
theorem ax_at.kept {D : va_G} {g : Nat → Nat} {U : State} {H H1 : Heap} {a : Nat} {c : ax_C} (h : ax_at D g U H a c) (hq : H1[a]? = H[a]?) : ax_at D g U H1 a c := by
  rcases c with ⟨t, n, f⟩ | ⟨ci, fs⟩
  · obtain ⟨cell, h1, h2⟩ := h
    exact ⟨cell, by rw [hq]; exact h1, h2⟩
  · obtain ⟨r, h1, h2⟩ := h
    exact ⟨r, h1, h2.kept hq⟩
theorem ax_at.lt {D : va_G} {g : Nat → Nat} {U : State} {H : Heap} {a : Nat} {c : ax_C} (h : ax_at D g U H a c) : a < H.size := by
  rcases c with ⟨t, n, f⟩ | ⟨ci, fs⟩
  · obtain ⟨cell, h1, h2⟩ := h
    exact (Array.getElem?_eq_some_iff.mp h1).1
  · obtain ⟨r, h1, cell, h2, -⟩ := h
    exact (Array.getElem?_eq_some_iff.mp h2).1
theorem ax_R.moved {D : va_G} {g : Nat → Nat} {u U : State} {h : ax_H} {H : Heap} (hvm : u.vm.Alike U.vm) (hR : ax_R D g u h H) : ax_R D g U h H := ⟨hR.1, hR.2.1, fun k hk => (hR.2.2 k hk).moved hvm⟩
/-- a cell is written -/
theorem ax_R.set {D : va_G} {g : Nat → Nat} {U : State} {h : ax_H} {H H1 : Heap} (hG : ax_G g) (hR : ax_R D g U h H) {k : Nat} (hk : 2 ≤ k) {c : ax_C} (z : H1.size = H.size) (oq : ∀ q : Nat, q ≠ g k → H1[q]? = H[q]?) (hc : ax_at D g U H1 (g k) c) : ax_R D g U (h.1, va_up h.2 k c) H1 := by
  refine ⟨z.trans hR.1, hR.2.1, fun j hj => ?_⟩
  by_cases e : j = k
  · subst e
    show ax_at D g U H1 (g j) (if j = j then c else _)
    rw [if_pos rfl]
    exact hc
  · have e2 : va_up h.2 k c j = h.2 j := if_neg e
    change ax_pr (va_up h.2 k c j) at hj
    show ax_at D g U H1 (g j) (va_up h.2 k c j)
    rw [e2] at hj ⊢
    exact (hR.2.2 j hj).kept (oq _ (hG.ne hk e))
/-- a cell is made -/
theorem ax_R.push {D : va_G} {g : Nat → Nat} {U : State} {h : ax_H} {H H1 : Heap} (hG : ax_G g) (hR : ax_R D g U h H) {c : ax_C} (z : H1.size = H.size + 1) (oq : ∀ q : Nat, q < H.size → H1[q]? = H[q]?) (hc : ax_at D g U H1 (g h.1) c) : ax_R D g U (h.1 + 1, va_up h.2 h.1 c) H1 := by
  refine ⟨by show H1.size = g (h.1 + 1); rw [z, hR.1, hG.1 _ hR.2.1], by have := hR.2.1; show 2 ≤ h.1 + 1; omega, fun j hj => ?_⟩
  by_cases e : j = h.1
  · subst e
    show ax_at D g U H1 (g h.1) (if h.1 = h.1 then c else _)
    rw [if_pos rfl]
    exact hc
  · have e2 : va_up h.2 h.1 c j = h.2 j := if_neg e
    change ax_pr (va_up h.2 h.1 c j) at hj
    show ax_at D g U H1 (g j) (va_up h.2 h.1 c j)
    rw [e2] at hj ⊢
    have := hR.2.2 j hj
    exact this.kept (oq _ this.lt)
/-! locals -/
def ax_L (g : Nat → Nat) (ls : Array Slot) (nL : Nat) (L : List (Option Value)) : Prop := ls.size = nL ∧ lv_wf ls ∧ ∀ (i : Nat) (v : Value), L[i]? = some (some v) → ls[i]? = some (.val (ax_v g v))
def ax_pairs (g : Nat → Nat) (L : List (Option Value)) : List (Nat × Value) := (List.range L.length).filterMap (fun i => match L[i]? with | some (some v) => some (i, ax_v g v) | _ => none)
theorem ax_pairs_mem {g : Nat → Nat} {L : List (Option Value)} {q : Nat × Value} : q ∈ ax_pairs g L ↔ ∃ v, L[q.1]? = some (some v) ∧ q.2 = ax_v g v := by
  unfold ax_pairs
  rw [List.mem_filterMap]
  constructor
  · rintro ⟨i, -, hi⟩
    split at hi
    · rename_i v hv
      cases hi
      exact ⟨v, hv, rfl⟩
    · cases hi
  · rintro ⟨v, h1, h2⟩
    refine ⟨q.1, List.mem_range.mpr (List.getElem?_eq_some_iff.mp h1).1, ?_⟩
    rw [h1]
    show some (q.1, ax_v g v) = some q
    rw [← h2]
theorem ax_L.has {g : Nat → Nat} {ls : Array Slot} {nL : Nat} {L : List (Option Value)} (h : ax_L g ls nL L) : lv_has ls nL (ax_pairs g L) := by
  refine ⟨h.1, h.2.1, fun q hq => ?_⟩
  obtain ⟨v, h1, h2⟩ := ax_pairs_mem.mp hq
  rw [h2]
  exact h.2.2 _ _ h1
/-- what a store at i leaves of the one before it: a long is gone -/
def ax_k (L : List (Option Value)) (i : Nat) : List (Option Value) := match i with
  | 0 => L
  | j + 1 => match L[j]? with
    | some (some (.long _)) => L.set j none
    | some (some (.double _)) => L.set j none
    | _ => L
def ax_s1 (L : List (Option Value)) (i : Nat) (v : Value) : List (Option Value) := (ax_k L i).set i (some v)
def ax_s2 (L : List (Option Value)) (i : Nat) (v : Value) : List (Option Value) := ((ax_k L i).set i (some v)).set (i + 1) none
theorem ax_k_get {L : List (Option Value)} {i j : Nat} {w : Value} (h : (ax_k L i)[j]? = some (some w)) : L[j]? = some (some w) ∧ ¬ (j + 1 = i ∧ w.category = 2) := by
  unfold ax_k at h
  split at h
  · exact ⟨h, fun q => by omega⟩
  · rename_i i' k
    have key : ∀ M : List (Option Value), M = L.set k none → M[j]? = some (some w) → L[j]? = some (some w) ∧ ¬ (j + 1 = k + 1 ∧ w.category = 2) := by
      intro M hM hj
      subst hM
      by_cases e : k = j
      · subst e
        rw [List.getElem?_set] at hj
        split at hj
        · split at hj <;> simp at hj
        · exact absurd rfl ‹_›
      · rw [List.getElem?_set_ne e] at hj
        exact ⟨hj, fun q => by omega⟩
    split at h
    · exact key _ rfl h
    · exact key _ rfl h
    · rename_i n1 n2
      refine ⟨h, fun q => ?_⟩
      have e : j = k := by omega
      subst e
      cases w with
      | long z => exact n1 z h
      | double z => exact n2 z h
      | _ => exact absurd q.2 (fun z => by simp [Value.category] at z)
theorem ax_L.s1 {g : Nat → Nat} {ls : Array Slot} {nL : Nat} {L : List (Option Value)} (h : ax_L g ls nL L) {i : Nat} (hi : i < nL) {v : Value} {ls' : Array Slot} (h' : lv_has ls' nL ((i, ax_v g v) :: (ax_pairs g L).filter (fun q => !(q.1 == i) && !(q.1 + 1 == i && q.2.category == 2)))) : ax_L g ls' nL (ax_s1 L i v) := by
  refine ⟨h'.1, h'.2.1, fun j w hj => ?_⟩
  by_cases e : i = j
  · subst e
    have : w = v := by
      unfold ax_s1 at hj
      rw [List.getElem?_set] at hj
      split at hj
      · split at hj
        · simpa using hj.symm
        · cases hj
      · exact absurd rfl ‹_›
    subst this
    exact h'.2.2 _ List.mem_cons_self
  · unfold ax_s1 at hj
    rw [List.getElem?_set_ne e] at hj
    obtain ⟨h1, h2⟩ := ax_k_get hj
    refine h'.2.2 (j, ax_v g w) (List.mem_cons_of_mem _ (List.mem_filter.mpr ⟨ax_pairs_mem.mpr ⟨w, h1, rfl⟩, ?_⟩))
    rw [ax_cat]
    simp
    exact ⟨fun q => e q.symm, Decidable.or_iff_not_imp_left.mpr (fun q q2 => h2 ⟨Decidable.not_not.mp q, q2⟩)⟩
theorem ax_L.s2 {g : Nat → Nat} {ls : Array Slot} {nL : Nat} {L : List (Option Value)} (h : ax_L g ls nL L) {i : Nat} (hi : i + 1 < nL) {v : Value} {ls' : Array Slot} (h' : lv_has ls' nL ((i, ax_v g v) :: (ax_pairs g L).filter (fun q => !(q.1 == i) && (!(q.1 == i + 1) && !(q.1 + 1 == i && q.2.category == 2))))) : ax_L g ls' nL (ax_s2 L i v) := by
  refine ⟨h'.1, h'.2.1, fun j w hj => ?_⟩
  unfold ax_s2 at hj
  by_cases e1 : i + 1 = j
  · subst e1
    rw [List.getElem?_set] at hj
    split at hj
    · split at hj <;> simp at hj
    · exact absurd rfl ‹_›
  · rw [List.getElem?_set_ne e1] at hj
    by_cases e : i = j
    · subst e
      have : w = v := by
        rw [List.getElem?_set] at hj
        split at hj
        · split at hj
          · simpa using hj.symm
          · cases hj
        · exact absurd rfl ‹_›
      subst this
      exact h'.2.2 _ List.mem_cons_self
    · rw [List.getElem?_set_ne e] at hj
      obtain ⟨h1, h2⟩ := ax_k_get hj
      refine h'.2.2 (j, ax_v g w) (List.mem_cons_of_mem _ (List.mem_filter.mpr ⟨ax_pairs_mem.mpr ⟨w, h1, rfl⟩, ?_⟩))
      rw [ax_cat]
      simp
      exact ⟨fun q => e q.symm, fun q => e1 q.symm, Decidable.or_iff_not_imp_left.mpr (fun q q2 => h2 ⟨Decidable.not_not.mp q, q2⟩)⟩
/-! entry -/
def ax_ent0 : List Value → List (Option Value)
  | [] => []
  | v :: vs => if v.category = 2 then some v :: none :: ax_ent0 vs else some v :: ax_ent0 vs
def ax_ent (A : List Value) (n : Nat) : List (Option Value) := ax_ent0 A ++ List.replicate (n - (ax_ent0 A).length) none
theorem ax_ent_len (g : Nat → Nat) : ∀ A : List Value, (lg_sl (A.map (ax_v g))).length = (ax_ent0 A).length
  | [] => rfl
  | v :: vs => by
    have ih := ax_ent_len g vs
    unfold lg_sl at ih ⊢
    simp only [List.map_cons, List.flatMap_cons, List.length_append, ih, ax_cat, ax_ent0]
    split <;> simp <;> omega
theorem ax_ent_mem (g : Nat → Nat) : ∀ (A : List Value) (i0 i : Nat) (v : Value), (ax_ent0 A)[i]? = some (some v) → (i0 + i, ax_v g v) ∈ lv_args i0 (A.map (ax_v g))
  | [], i0, i, v, h => by simp [ax_ent0] at h
  | w :: vs, i0, i, v, h => by
    simp only [List.map_cons, lv_args, ax_cat]
    unfold ax_ent0 at h
    by_cases hc : w.category = 2
    · rw [if_pos hc] at h ⊢
      match i, h with
      | 0, h => simp at h; subst h; exact List.mem_cons_self
      | 1, h => simp at h
      | i + 2, h =>
        have := ax_ent_mem g vs (i0 + 2) i v (by simpa using h)
        refine List.mem_cons_of_mem _ ?_
        rwa [show i0 + 2 + i = i0 + (i + 2) by omega] at this
    · rw [if_neg hc] at h ⊢
      match i, h with
      | 0, h => simp at h; subst h; exact List.mem_cons_self
      | i + 1, h =>
        have := ax_ent_mem g vs (i0 + 1) i v (by simpa using h)
        refine List.mem_cons_of_mem _ ?_
        rwa [show i0 + 1 + i = i0 + (i + 1) by omega] at this
theorem ax_ent_L (g : Nat → Nat) (A : List Value) {n : Nat} (h : (ax_ent0 A).length ≤ n) : ax_L g ((lg_sl (A.map (ax_v g)) ++ List.replicate (n - (lg_sl (A.map (ax_v g))).length) Slot.unset).toArray) n (ax_ent A n) := by
  have hl := lv_entry (A.map (ax_v g)) (n := n) (by rw [ax_ent_len]; exact h)
  refine ⟨hl.1, hl.2.1, fun i v hv => ?_⟩
  unfold ax_ent at hv
  by_cases hi : i < (ax_ent0 A).length
  · rw [List.getElem?_append_left hi] at hv
    have := ax_ent_mem g A 0 i v hv
    rw [Nat.zero_add] at this
    exact hl.2.2 _ this
  · rw [List.getElem?_append_right (by omega), List.getElem?_replicate] at hv
    split at hv <;> simp at hv
end
section
/-! the judgement and its rules -/
def ax_ws : List Cond := lw_tbl.filter goodWord
def ax_nest : List Cond := lw_tbl.filter (fun w => !goodWord w)
/-- the tables, as a state has them: the classes, the nest mates' links, the two classes of arrays of references, the static array -/
def ax_nw (w : Cond) (U : State) : Prop := match w with
  | .fieldLinkNest a i b n d h => va_Nw (.fieldLinkNest a i b n d h) U
  | .methodLinkNest a i x h => va_Nw (.methodLinkNest a i x h) U
  | .arrayOver (.object C) => va_AO C U
  | _ => True
def ax_T (D : va_G) (g : Nat → Nat) (U : State) : Prop := va_K D vwCl [] U ∧ (∀ w ∈ ax_nest, ax_nw w U) ∧ va_Z "ExamTour" "KEPT_WORDS" "[J" (.ref (g 1)) (fun q => g 2 ≤ q) U U.heap
theorem ax_nw.moved {w : Cond} {s U : State} (hW : s.WarmedH U.vm) (h : ax_nw w s) : ax_nw w U := by
  cases w with
  | fieldLinkNest a i b n d h' => exact va_Nw.warmF hW h
  | methodLinkNest a i x h' => exact va_Nw.warmM hW h
  | arrayOver ty =>
    cases ty with
    | object C => exact va_AO.moved hW.alike h
    | _ => exact trivial
  | _ => exact trivial
theorem ax_T.moved {D : va_G} {g : Nat → Nat} {s U : State} (hW : s.WarmedH U.vm) {locs : List Loc} (hS : va_S (fun q => g 2 ≤ q) s.heap U.heap locs) (h : ax_T D g s) : ax_T D g U :=
  ⟨va_K.moved hW.alike h.1, fun w hw => (h.2.1 w hw).moved hW, va_Z.kept (va_Z.moved hW.alike h.2.2) (fun a h1 h2 => hS.2.1 a h1 h2)⟩
/-- a method: its name, code, locals, answer, the cells and slots that it may make -/
abbrev ax_M : Type := MethodName × ByteArray × Nat × Option FieldType × Nat × Nat
def ax_rm (d : Nat) (M : ax_M) : Room := { frames := d, cells := M.2.2.2.2.1, slots := M.2.2.2.2.2, locals := 64 * d }
/-- room for d frames, and for what M makes -/
def ax_ro (R : Room) (d : Nat) (M : ax_M) : Prop := d ≤ R.frames ∧ M.2.2.2.2.1 ≤ R.cells ∧ M.2.2.2.2.2 ≤ R.slots ∧ 64 * d ≤ R.locals
def ax_J (p : Program) (l : Launch) (e : Env) (R : Room) (s : State) (m : MethodId) (args : Array Value) (below : List Frame) (meth : Method) (c : Code) (Z : State → Prop) (D : va_G) (g : Nat → Nat) (pc : Nat) (L : List (Option Value)) (st : List Value) (h : ax_H) (k n : Nat) : Prop :=
  ∀ (H : Heap) (locs : List Loc) (ls : Array Slot), ax_R D g s h H → va_S (fun q => g 2 ≤ q) s.heap H locs → ax_L g ls c.maxLocals L → W p l e R s m args below meth c H locs k n Z (F0 m pc ls (st.map (ax_v g)))
abbrev ax_X := Program × Launch × Env × Room × State × MethodId × Array Value × List Frame × Method × Code × (State → Prop) × va_G × (Nat → Nat)
def ax_j (X : ax_X) (pc : Nat) (L : List (Option Value)) (st : List Value) (h : ax_H) (k n : Nat) : Prop :=
  match X with
  | (p, l, e, R, s, m, args, below, meth, c, Z, D, g) => ax_J p l e R s m args below meth c Z D g pc L st h k n
/-- the walk is of method M, with room for d frames -/
def ax_ok (X : ax_X) (M : ax_M) (d : Nat) : Prop :=
  match X with
  | (p, _, _, R, s, m, args, _, meth, c, _, D, g) => p.tables.exec = Jvm.exec ∧ c.code = M.2.1 ∧ c.maxLocals = M.2.2.1 ∧ meth.sig.returnType = M.2.2.2.1 ∧ s.vm.findClass M.1.cls = some m.cls ∧ (∀ w ∈ ax_ws, w.before args s = true) ∧ meth.locks = false ∧ meth.name = M.1.name ∧ ax_T D g s ∧ ax_G g ∧ g 2 ≤ s.heap.size ∧ ax_ro R d M
section AXR
variable {X : ax_X} {M : ax_M} {d pc k n : Nat} {L : List (Option Value)} {st : List Value} {h : ax_H}
theorem ax_iconst (hX : ax_ok X M d) {i : Int} {v : Int32} (hd : decode M.2.1 pc = .ok (.iconst i, 1)) (hv : Int32.ofInt i = v) (kk : ax_j X (pc + 1) L (.int v :: st) h k n) : ax_j X pc L st h k n := by
  obtain ⟨p, l, e, R, s, m, args, below, meth, c, Z, D, g⟩ := X
  exact fun H locs ls hR hS hL => lv_iconst hX.1 hX.2.1 hd hv (kk H locs ls hR hS hL)
theorem ax_bipush (hX : ax_ok X M d) {i : Int} {v : Int32} (hd : decode M.2.1 pc = .ok (.bipush i, 2)) (hv : (Int8.ofInt i).toInt32 = v) (kk : ax_j X (pc + 2) L (.int v :: st) h k n) : ax_j X pc L st h k n := by
  obtain ⟨p, l, e, R, s, m, args, below, meth, c, Z, D, g⟩ := X
  exact fun H locs ls hR hS hL => lv_bipush hX.1 hX.2.1 hd hv (kk H locs ls hR hS hL)
theorem ax_sipush (hX : ax_ok X M d) {i : Int} {v : Int32} (hd : decode M.2.1 pc = .ok (.sipush i, 3)) (hv : (Int16.ofInt i).toInt32 = v) (kk : ax_j X (pc + 3) L (.int v :: st) h k n) : ax_j X pc L st h k n := by
  obtain ⟨p, l, e, R, s, m, args, below, meth, c, Z, D, g⟩ := X
  exact fun H locs ls hR hS hL => lv_sipush hX.1 hX.2.1 hd hv (kk H locs ls hR hS hL)
theorem ax_lconst (hX : ax_ok X M d) {i : Fin 2} {v : Int64} (hd : decode M.2.1 pc = .ok (.lconst i, 1)) (hv : Int64.ofNat (i : Nat) = v) (kk : ax_j X (pc + 1) L (.long v :: st) h k n) : ax_j X pc L st h k n := by
  obtain ⟨p, l, e, R, s, m, args, below, meth, c, Z, D, g⟩ := X
  exact fun H locs ls hR hS hL => lv_lconst hX.1 hX.2.1 hd hv (kk H locs ls hR hS hL)
theorem ax_null (hX : ax_ok X M d) (hd : decode M.2.1 pc = .ok (.aconst_null, 1)) (kk : ax_j X (pc + 1) L (.null :: st) h k n) : ax_j X pc L st h k n := by
  obtain ⟨p, l, e, R, s, m, args, below, meth, c, Z, D, g⟩ := X
  exact fun H locs ls hR hS hL => lv_null hX.1 hX.2.1 hd (kk H locs ls hR hS hL)
theorem ax_ldc (hX : ax_ok X M d) {i : Nat} {v : Int32} (hw : Cond.constant M.1.cls i v ∈ ax_ws) (hd : decode M.2.1 pc = .ok (.ldc i, 2)) (kk : ax_j X (pc + 2) L (.int v :: st) h k n) : ax_j X pc L st h k n := by
  obtain ⟨p, l, e, R, s, m, args, below, meth, c, Z, D, g⟩ := X
  exact fun H locs ls hR hS hL => lv_ldc hX.1 hX.2.1 hX.2.2.2.2.1 (hX.2.2.2.2.2.1 _ hw) hd (kk H locs ls hR hS hL)
theorem ax_ldcw (hX : ax_ok X M d) {i : Nat} {v : Int32} (hw : Cond.constant M.1.cls i v ∈ ax_ws) (hd : decode M.2.1 pc = .ok (.ldc_w i, 3)) (kk : ax_j X (pc + 3) L (.int v :: st) h k n) : ax_j X pc L st h k n := by
  obtain ⟨p, l, e, R, s, m, args, below, meth, c, Z, D, g⟩ := X
  exact fun H locs ls hR hS hL => lv_ldcw hX.1 hX.2.1 hX.2.2.2.2.1 (hX.2.2.2.2.2.1 _ hw) hd (kk H locs ls hR hS hL)
theorem ax_ldc2 (hX : ax_ok X M d) {i : Nat} {v : Int64} (hw : Cond.constantLong M.1.cls i v ∈ ax_ws) (hd : decode M.2.1 pc = .ok (.ldc2_w i, 3)) (kk : ax_j X (pc + 3) L (.long v :: st) h k n) : ax_j X pc L st h k n := by
  obtain ⟨p, l, e, R, s, m, args, below, meth, c, Z, D, g⟩ := X
  exact fun H locs ls hR hS hL => lv_ldc2 hX.1 hX.2.1 hX.2.2.2.2.1 (hX.2.2.2.2.2.1 _ hw) hd (kk H locs ls hR hS hL)
theorem ax_iload_n (hX : ax_ok X M d) {i : Fin 4} {v : Int32} (hd : decode M.2.1 pc = .ok (.iload_n i, 1)) (hl : L[(i : Nat)]? = some (some (.int v))) (kk : ax_j X (pc + 1) L (.int v :: st) h k n) : ax_j X pc L st h k n := by
  obtain ⟨p, l, e, R, s, m, args, below, meth, c, Z, D, g⟩ := X
  exact fun H locs ls hR hS hL => lv_iload_n hX.1 hX.2.1 hd rfl (hL.2.2 _ _ hl) (kk H locs ls hR hS hL)
theorem ax_iload (hX : ax_ok X M d) {i : Nat} {v : Int32} (hd : decode M.2.1 pc = .ok (.iload i, 2)) (hl : L[i]? = some (some (.int v))) (kk : ax_j X (pc + 2) L (.int v :: st) h k n) : ax_j X pc L st h k n := by
  obtain ⟨p, l, e, R, s, m, args, below, meth, c, Z, D, g⟩ := X
  exact fun H locs ls hR hS hL => lv_iload hX.1 hX.2.1 hd (hL.2.2 _ _ hl) (kk H locs ls hR hS hL)
theorem ax_lload_n (hX : ax_ok X M d) {i : Fin 4} {v : Int64} (hd : decode M.2.1 pc = .ok (.lload_n i, 1)) (hl : L[(i : Nat)]? = some (some (.long v))) (kk : ax_j X (pc + 1) L (.long v :: st) h k n) : ax_j X pc L st h k n := by
  obtain ⟨p, l, e, R, s, m, args, below, meth, c, Z, D, g⟩ := X
  exact fun H locs ls hR hS hL => lv_lload_n hX.1 hX.2.1 hd rfl (hL.2.2 _ _ hl) (kk H locs ls hR hS hL)
theorem ax_lload (hX : ax_ok X M d) {i : Nat} {v : Int64} (hd : decode M.2.1 pc = .ok (.lload i, 2)) (hl : L[i]? = some (some (.long v))) (kk : ax_j X (pc + 2) L (.long v :: st) h k n) : ax_j X pc L st h k n := by
  obtain ⟨p, l, e, R, s, m, args, below, meth, c, Z, D, g⟩ := X
  exact fun H locs ls hR hS hL => lv_lload hX.1 hX.2.1 hd (hL.2.2 _ _ hl) (kk H locs ls hR hS hL)
/-- a reference, or null -/
def ax_isr (v : Value) : Prop := v = .null ∨ ∃ a, v = .ref a
theorem ax_aload_n (hX : ax_ok X M d) {i : Fin 4} {v : Value} (hd : decode M.2.1 pc = .ok (.aload_n i, 1)) (hv : ax_isr v) (hl : L[(i : Nat)]? = some (some v)) (kk : ax_j X (pc + 1) L (v :: st) h k n) : ax_j X pc L st h k n := by
  obtain ⟨p, l, e, R, s, m, args, below, meth, c, Z, D, g⟩ := X
  rcases hv with rfl | ⟨a, rfl⟩
  · exact fun H locs ls hR hS hL => lv_aload_nN hX.1 hX.2.1 hd rfl (hL.2.2 _ _ hl) (kk H locs ls hR hS hL)
  · exact fun H locs ls hR hS hL => lv_aload_n hX.1 hX.2.1 hd rfl (hL.2.2 _ _ hl) (kk H locs ls hR hS hL)
theorem ax_aload (hX : ax_ok X M d) {i : Nat} {v : Value} (hd : decode M.2.1 pc = .ok (.aload i, 2)) (hv : ax_isr v) (hl : L[i]? = some (some v)) (kk : ax_j X (pc + 2) L (v :: st) h k n) : ax_j X pc L st h k n := by
  obtain ⟨p, l, e, R, s, m, args, below, meth, c, Z, D, g⟩ := X
  rcases hv with rfl | ⟨a, rfl⟩
  · exact fun H locs ls hR hS hL => lv_aloadN hX.1 hX.2.1 hd (hL.2.2 _ _ hl) (kk H locs ls hR hS hL)
  · exact fun H locs ls hR hS hL => lv_aload hX.1 hX.2.1 hd (hL.2.2 _ _ hl) (kk H locs ls hR hS hL)
theorem ax_istore_n (hX : ax_ok X M d) {i : Fin 4} {v : Int32} {L' : List (Option Value)} (hd : decode M.2.1 pc = .ok (.istore_n i, 1)) (hi : (i : Nat) < M.2.2.1) (hl : ax_s1 L i (.int v) = L') (kk : ax_j X (pc + 1) L' st h k n) : ax_j X pc L (.int v :: st) h k n := by
  obtain ⟨p, l, e, R, s, m, args, below, meth, c, Z, D, g⟩ := X
  subst hl
  have hi : (i : Nat) < c.maxLocals := by rw [hX.2.2.1]; exact hi
  exact fun H locs ls hR hS hL => lv_istore_n hX.1 hX.2.1 hd rfl hL.has hi rfl (fun ls' h' => kk H locs ls' hR hS (hL.s1 (v := .int v) hi h'))
theorem ax_istore (hX : ax_ok X M d) {i : Nat} {v : Int32} {L' : List (Option Value)} (hd : decode M.2.1 pc = .ok (.istore i, 2)) (hi : i < M.2.2.1) (hl : ax_s1 L i (.int v) = L') (kk : ax_j X (pc + 2) L' st h k n) : ax_j X pc L (.int v :: st) h k n := by
  obtain ⟨p, l, e, R, s, m, args, below, meth, c, Z, D, g⟩ := X
  subst hl
  have hi : i < c.maxLocals := by rw [hX.2.2.1]; exact hi
  exact fun H locs ls hR hS hL => lv_istore hX.1 hX.2.1 hd hL.has hi rfl (fun ls' h' => kk H locs ls' hR hS (hL.s1 (v := .int v) hi h'))
theorem ax_lstore_n (hX : ax_ok X M d) {i : Fin 4} {v : Int64} {L' : List (Option Value)} (hd : decode M.2.1 pc = .ok (.lstore_n i, 1)) (hi : (i : Nat) + 1 < M.2.2.1) (hl : ax_s2 L i (.long v) = L') (kk : ax_j X (pc + 1) L' st h k n) : ax_j X pc L (.long v :: st) h k n := by
  obtain ⟨p, l, e, R, s, m, args, below, meth, c, Z, D, g⟩ := X
  subst hl
  have hi : (i : Nat) + 1 < c.maxLocals := by rw [hX.2.2.1]; exact hi
  exact fun H locs ls hR hS hL => lv_lstore_n hX.1 hX.2.1 hd rfl hL.has hi rfl (fun ls' h' => kk H locs ls' hR hS (hL.s2 (v := .long v) hi h'))
theorem ax_lstore (hX : ax_ok X M d) {i : Nat} {v : Int64} {L' : List (Option Value)} (hd : decode M.2.1 pc = .ok (.lstore i, 2)) (hi : i + 1 < M.2.2.1) (hl : ax_s2 L i (.long v) = L') (kk : ax_j X (pc + 2) L' st h k n) : ax_j X pc L (.long v :: st) h k n := by
  obtain ⟨p, l, e, R, s, m, args, below, meth, c, Z, D, g⟩ := X
  subst hl
  have hi : i + 1 < c.maxLocals := by rw [hX.2.2.1]; exact hi
  exact fun H locs ls hR hS hL => lv_lstore hX.1 hX.2.1 hd hL.has hi rfl (fun ls' h' => kk H locs ls' hR hS (hL.s2 (v := .long v) hi h'))
theorem ax_astore_n (hX : ax_ok X M d) {i : Fin 4} {v : Value} {L' : List (Option Value)} (hd : decode M.2.1 pc = .ok (.astore_n i, 1)) (hv : ax_isr v) (hi : (i : Nat) < M.2.2.1) (hl : ax_s1 L i v = L') (kk : ax_j X (pc + 1) L' st h k n) : ax_j X pc L (v :: st) h k n := by
  obtain ⟨p, l, e, R, s, m, args, below, meth, c, Z, D, g⟩ := X
  subst hl
  have hi : (i : Nat) < c.maxLocals := by rw [hX.2.2.1]; exact hi
  rcases hv with rfl | ⟨a, rfl⟩
  · exact fun H locs ls hR hS hL => lv_astore_nN hX.1 hX.2.1 hd rfl hL.has hi rfl (fun ls' h' => kk H locs ls' hR hS (hL.s1 (v := .null) hi h'))
  · exact fun H locs ls hR hS hL => lv_astore_n hX.1 hX.2.1 hd rfl hL.has hi rfl (fun ls' h' => kk H locs ls' hR hS (hL.s1 (v := .ref a) hi h'))
theorem ax_astore (hX : ax_ok X M d) {i : Nat} {v : Value} {L' : List (Option Value)} (hd : decode M.2.1 pc = .ok (.astore i, 2)) (hv : ax_isr v) (hi : i < M.2.2.1) (hl : ax_s1 L i v = L') (kk : ax_j X (pc + 2) L' st h k n) : ax_j X pc L (v :: st) h k n := by
  obtain ⟨p, l, e, R, s, m, args, below, meth, c, Z, D, g⟩ := X
  subst hl
  have hi : i < c.maxLocals := by rw [hX.2.2.1]; exact hi
  rcases hv with rfl | ⟨a, rfl⟩
  · exact fun H locs ls hR hS hL => lv_astoreN hX.1 hX.2.1 hd hL.has hi rfl (fun ls' h' => kk H locs ls' hR hS (hL.s1 (v := .null) hi h'))
  · exact fun H locs ls hR hS hL => lv_astore hX.1 hX.2.1 hd hL.has hi rfl (fun ls' h' => kk H locs ls' hR hS (hL.s1 (v := .ref a) hi h'))
theorem ax_iinc (hX : ax_ok X M d) {i : Nat} {a : Int} {v w : Int32} {L' : List (Option Value)} (hd : decode M.2.1 pc = .ok (.iinc i a, 3)) (hl0 : L[i]? = some (some (.int v))) (hw : v + Int32.ofInt a = w) (hi : i < M.2.2.1) (hl : ax_s1 L i (.int w) = L') (kk : ax_j X (pc + 3) L' st h k n) : ax_j X pc L st h k n := by
  obtain ⟨p, l, e, R, s, m, args, below, meth, c, Z, D, g⟩ := X
  subst hl
  have hi : i < c.maxLocals := by rw [hX.2.2.1]; exact hi
  refine fun H locs ls hR hS hL => ?_
  obtain ⟨q, hq⟩ := List.getElem?_of_mem (ax_pairs_mem (g := g) (q := (i, .int v)).mpr ⟨.int v, hl0, rfl⟩)
  exact lv_iinc hX.1 hX.2.1 hd hL.has hq hw hi rfl (fun ls' h' => kk H locs ls' hR hS (hL.s1 (v := .int w) hi h'))
theorem ax_iadd (hX : ax_ok X M d) {x y : Int32} (hd : decode M.2.1 pc = .ok (.iadd, 1)) (kk : ax_j X (pc + 1) L (.int (x + y) :: st) h k n) : ax_j X pc L (.int y :: .int x :: st) h k n := by
  obtain ⟨p, l, e, R, s, m, args, below, meth, c, Z, D, g⟩ := X
  exact fun H locs ls hR hS hL => lv_iadd hX.1 hX.2.1 hd (kk H locs ls hR hS hL)
theorem ax_isub (hX : ax_ok X M d) {x y : Int32} (hd : decode M.2.1 pc = .ok (.isub, 1)) (kk : ax_j X (pc + 1) L (.int (x - y) :: st) h k n) : ax_j X pc L (.int y :: .int x :: st) h k n := by
  obtain ⟨p, l, e, R, s, m, args, below, meth, c, Z, D, g⟩ := X
  exact fun H locs ls hR hS hL => lv_isub hX.1 hX.2.1 hd (kk H locs ls hR hS hL)
theorem ax_imul (hX : ax_ok X M d) {x y : Int32} (hd : decode M.2.1 pc = .ok (.imul, 1)) (kk : ax_j X (pc + 1) L (.int (x * y) :: st) h k n) : ax_j X pc L (.int y :: .int x :: st) h k n := by
  obtain ⟨p, l, e, R, s, m, args, below, meth, c, Z, D, g⟩ := X
  exact fun H locs ls hR hS hL => lv_imul hX.1 hX.2.1 hd (kk H locs ls hR hS hL)
theorem ax_iand (hX : ax_ok X M d) {x y : Int32} (hd : decode M.2.1 pc = .ok (.iand, 1)) (kk : ax_j X (pc + 1) L (.int (x &&& y) :: st) h k n) : ax_j X pc L (.int y :: .int x :: st) h k n := by
  obtain ⟨p, l, e, R, s, m, args, below, meth, c, Z, D, g⟩ := X
  exact fun H locs ls hR hS hL => lv_iand hX.1 hX.2.1 hd (kk H locs ls hR hS hL)
theorem ax_ior (hX : ax_ok X M d) {x y : Int32} (hd : decode M.2.1 pc = .ok (.ior, 1)) (kk : ax_j X (pc + 1) L (.int (x ||| y) :: st) h k n) : ax_j X pc L (.int y :: .int x :: st) h k n := by
  obtain ⟨p, l, e, R, s, m, args, below, meth, c, Z, D, g⟩ := X
  exact fun H locs ls hR hS hL => lv_ior hX.1 hX.2.1 hd (kk H locs ls hR hS hL)
theorem ax_ixor (hX : ax_ok X M d) {x y : Int32} (hd : decode M.2.1 pc = .ok (.ixor, 1)) (kk : ax_j X (pc + 1) L (.int (x ^^^ y) :: st) h k n) : ax_j X pc L (.int y :: .int x :: st) h k n := by
  obtain ⟨p, l, e, R, s, m, args, below, meth, c, Z, D, g⟩ := X
  exact fun H locs ls hR hS hL => lv_ixor hX.1 hX.2.1 hd (kk H locs ls hR hS hL)
theorem ax_ishl (hX : ax_ok X M d) {x y : Int32} (hd : decode M.2.1 pc = .ok (.ishl, 1)) (kk : ax_j X (pc + 1) L (.int (x <<< (y &&& 31)) :: st) h k n) : ax_j X pc L (.int y :: .int x :: st) h k n := by
  obtain ⟨p, l, e, R, s, m, args, below, meth, c, Z, D, g⟩ := X
  exact fun H locs ls hR hS hL => lv_ishl hX.1 hX.2.1 hd (kk H locs ls hR hS hL)
theorem ax_ishr (hX : ax_ok X M d) {x y : Int32} (hd : decode M.2.1 pc = .ok (.ishr, 1)) (kk : ax_j X (pc + 1) L (.int (x >>> (y &&& 31)) :: st) h k n) : ax_j X pc L (.int y :: .int x :: st) h k n := by
  obtain ⟨p, l, e, R, s, m, args, below, meth, c, Z, D, g⟩ := X
  exact fun H locs ls hR hS hL => lv_ishr hX.1 hX.2.1 hd (kk H locs ls hR hS hL)
theorem ax_idiv (hX : ax_ok X M d) {x y : Int32} (hd : decode M.2.1 pc = .ok (.idiv, 1)) (hy : ¬ y = 0) (kk : ax_j X (pc + 1) L (.int (x / y) :: st) h k n) : ax_j X pc L (.int y :: .int x :: st) h k n := by
  obtain ⟨p, l, e, R, s, m, args, below, meth, c, Z, D, g⟩ := X
  exact fun H locs ls hR hS hL => lv_idiv hX.1 hX.2.1 hd hy (kk H locs ls hR hS hL)
theorem ax_ladd (hX : ax_ok X M d) {x y : Int64} (hd : decode M.2.1 pc = .ok (.ladd, 1)) (kk : ax_j X (pc + 1) L (.long (x + y) :: st) h k n) : ax_j X pc L (.long y :: .long x :: st) h k n := by
  obtain ⟨p, l, e, R, s, m, args, below, meth, c, Z, D, g⟩ := X
  exact fun H locs ls hR hS hL => lv_ladd hX.1 hX.2.1 hd (kk H locs ls hR hS hL)
theorem ax_lsub (hX : ax_ok X M d) {x y : Int64} (hd : decode M.2.1 pc = .ok (.lsub, 1)) (kk : ax_j X (pc + 1) L (.long (x - y) :: st) h k n) : ax_j X pc L (.long y :: .long x :: st) h k n := by
  obtain ⟨p, l, e, R, s, m, args, below, meth, c, Z, D, g⟩ := X
  exact fun H locs ls hR hS hL => lv_lsub hX.1 hX.2.1 hd (kk H locs ls hR hS hL)
theorem ax_lmul (hX : ax_ok X M d) {x y : Int64} (hd : decode M.2.1 pc = .ok (.lmul, 1)) (kk : ax_j X (pc + 1) L (.long (x * y) :: st) h k n) : ax_j X pc L (.long y :: .long x :: st) h k n := by
  obtain ⟨p, l, e, R, s, m, args, below, meth, c, Z, D, g⟩ := X
  exact fun H locs ls hR hS hL => lv_lmul hX.1 hX.2.1 hd (kk H locs ls hR hS hL)
theorem ax_land (hX : ax_ok X M d) {x y : Int64} (hd : decode M.2.1 pc = .ok (.land, 1)) (kk : ax_j X (pc + 1) L (.long (x &&& y) :: st) h k n) : ax_j X pc L (.long y :: .long x :: st) h k n := by
  obtain ⟨p, l, e, R, s, m, args, below, meth, c, Z, D, g⟩ := X
  exact fun H locs ls hR hS hL => lv_land hX.1 hX.2.1 hd (kk H locs ls hR hS hL)
theorem ax_lor (hX : ax_ok X M d) {x y : Int64} (hd : decode M.2.1 pc = .ok (.lor, 1)) (kk : ax_j X (pc + 1) L (.long (x ||| y) :: st) h k n) : ax_j X pc L (.long y :: .long x :: st) h k n := by
  obtain ⟨p, l, e, R, s, m, args, below, meth, c, Z, D, g⟩ := X
  exact fun H locs ls hR hS hL => lv_lor hX.1 hX.2.1 hd (kk H locs ls hR hS hL)
theorem ax_lshl (hX : ax_ok X M d) {x : Int64} {y : Int32} (hd : decode M.2.1 pc = .ok (.lshl, 1)) (kk : ax_j X (pc + 1) L (.long (x <<< (y.toInt64 &&& 63)) :: st) h k n) : ax_j X pc L (.int y :: .long x :: st) h k n := by
  obtain ⟨p, l, e, R, s, m, args, below, meth, c, Z, D, g⟩ := X
  exact fun H locs ls hR hS hL => lv_lshl hX.1 hX.2.1 hd rfl (kk H locs ls hR hS hL)
theorem ax_lshr (hX : ax_ok X M d) {x : Int64} {y : Int32} (hd : decode M.2.1 pc = .ok (.lshr, 1)) (kk : ax_j X (pc + 1) L (.long (x >>> (y.toInt64 &&& 63)) :: st) h k n) : ax_j X pc L (.int y :: .long x :: st) h k n := by
  obtain ⟨p, l, e, R, s, m, args, below, meth, c, Z, D, g⟩ := X
  exact fun H locs ls hR hS hL => lv_lshr hX.1 hX.2.1 hd rfl (kk H locs ls hR hS hL)
theorem ax_lushr (hX : ax_ok X M d) {x : Int64} {y : Int32} (hd : decode M.2.1 pc = .ok (.lushr, 1)) (kk : ax_j X (pc + 1) L (.long ((x.toUInt64 >>> (y.toInt64.toUInt64 &&& Int64.toUInt64 63)).toInt64) :: st) h k n) : ax_j X pc L (.int y :: .long x :: st) h k n := by
  obtain ⟨p, l, e, R, s, m, args, below, meth, c, Z, D, g⟩ := X
  exact fun H locs ls hR hS hL => lv_lushr hX.1 hX.2.1 hd rfl (kk H locs ls hR hS hL)
theorem ax_i2l (hX : ax_ok X M d) {x : Int32} (hd : decode M.2.1 pc = .ok (.i2l, 1)) (kk : ax_j X (pc + 1) L (.long x.toInt64 :: st) h k n) : ax_j X pc L (.int x :: st) h k n := by
  obtain ⟨p, l, e, R, s, m, args, below, meth, c, Z, D, g⟩ := X
  exact fun H locs ls hR hS hL => lv_i2l hX.1 hX.2.1 hd rfl (kk H locs ls hR hS hL)
theorem ax_l2i (hX : ax_ok X M d) {x : Int64} (hd : decode M.2.1 pc = .ok (.l2i, 1)) (kk : ax_j X (pc + 1) L (.int x.toInt32 :: st) h k n) : ax_j X pc L (.long x :: st) h k n := by
  obtain ⟨p, l, e, R, s, m, args, below, meth, c, Z, D, g⟩ := X
  exact fun H locs ls hR hS hL => lv_l2i hX.1 hX.2.1 hd rfl (kk H locs ls hR hS hL)
theorem ax_i2b (hX : ax_ok X M d) {x : Int32} (hd : decode M.2.1 pc = .ok (.i2b, 1)) (kk : ax_j X (pc + 1) L (.int x.toInt8.toInt32 :: st) h k n) : ax_j X pc L (.int x :: st) h k n := by
  obtain ⟨p, l, e, R, s, m, args, below, meth, c, Z, D, g⟩ := X
  exact fun H locs ls hR hS hL => lv_i2b hX.1 hX.2.1 hd rfl (kk H locs ls hR hS hL)
theorem ax_dup (hX : ax_ok X M d) {v : Value} (hd : decode M.2.1 pc = .ok (.dup, 1)) (hv : v.category = 1) (kk : ax_j X (pc + 1) L (v :: v :: st) h k n) : ax_j X pc L (v :: st) h k n := by
  obtain ⟨p, l, e, R, s, m, args, below, meth, c, Z, D, g⟩ := X
  exact fun H locs ls hR hS hL => lv_dup hX.1 hX.2.1 hd ((ax_cat g v).trans hv) (kk H locs ls hR hS hL)
theorem ax_dup2 (hX : ax_ok X M d) {v w : Value} (hd : decode M.2.1 pc = .ok (.dup2, 1)) (hv : v.category = 1) (hw : w.category = 1) (kk : ax_j X (pc + 1) L (v :: w :: v :: w :: st) h k n) : ax_j X pc L (v :: w :: st) h k n := by
  obtain ⟨p, l, e, R, s, m, args, below, meth, c, Z, D, g⟩ := X
  exact fun H locs ls hR hS hL => lv_dup2_11 hX.1 hX.2.1 hd ((ax_cat g v).trans hv) ((ax_cat g w).trans hw) (kk H locs ls hR hS hL)
theorem ax_if_eq (hX : ax_ok X M d) {x : Int32} {off : Int} {tgt : Nat} (hd : decode M.2.1 pc = .ok (.ifCond .eq off, 3)) (ht : (pc : Int) + off = (tgt : Int)) (kt : x = 0 → ax_j X tgt L st h k n) (kf : ¬ x = 0 → ax_j X (pc + 3) L st h k n) : ax_j X pc L (.int x :: st) h k n := by
  obtain ⟨p, l, e, R, s, m, args, below, meth, c, Z, D, g⟩ := X
  exact fun H locs ls hR hS hL => lv_if_eq hX.1 hX.2.1 hd ht (fun q => kt q H locs ls hR hS hL) (fun q => kf q H locs ls hR hS hL)
theorem ax_icmp_eq (hX : ax_ok X M d) {x y : Int32} {off : Int} {tgt : Nat} (hd : decode M.2.1 pc = .ok (.if_icmp .eq off, 3)) (ht : (pc : Int) + off = (tgt : Int)) (kt : x = y → ax_j X tgt L st h k n) (kf : ¬ x = y → ax_j X (pc + 3) L st h k n) : ax_j X pc L (.int y :: .int x :: st) h k n := by
  obtain ⟨p, l, e, R, s, m, args, below, meth, c, Z, D, g⟩ := X
  exact fun H locs ls hR hS hL => lv_icmp_eq hX.1 hX.2.1 hd ht (fun q => kt q H locs ls hR hS hL) (fun q => kf q H locs ls hR hS hL)
theorem ax_if_ne (hX : ax_ok X M d) {x : Int32} {off : Int} {tgt : Nat} (hd : decode M.2.1 pc = .ok (.ifCond .ne off, 3)) (ht : (pc : Int) + off = (tgt : Int)) (kt : ¬ x = 0 → ax_j X tgt L st h k n) (kf : x = 0 → ax_j X (pc + 3) L st h k n) : ax_j X pc L (.int x :: st) h k n := by
  obtain ⟨p, l, e, R, s, m, args, below, meth, c, Z, D, g⟩ := X
  exact fun H locs ls hR hS hL => lv_if_ne hX.1 hX.2.1 hd ht (fun q => kt q H locs ls hR hS hL) (fun q => kf q H locs ls hR hS hL)
theorem ax_icmp_ne (hX : ax_ok X M d) {x y : Int32} {off : Int} {tgt : Nat} (hd : decode M.2.1 pc = .ok (.if_icmp .ne off, 3)) (ht : (pc : Int) + off = (tgt : Int)) (kt : ¬ x = y → ax_j X tgt L st h k n) (kf : x = y → ax_j X (pc + 3) L st h k n) : ax_j X pc L (.int y :: .int x :: st) h k n := by
  obtain ⟨p, l, e, R, s, m, args, below, meth, c, Z, D, g⟩ := X
  exact fun H locs ls hR hS hL => lv_icmp_ne hX.1 hX.2.1 hd ht (fun q => kt q H locs ls hR hS hL) (fun q => kf q H locs ls hR hS hL)
theorem ax_if_lt (hX : ax_ok X M d) {x : Int32} {off : Int} {tgt : Nat} (hd : decode M.2.1 pc = .ok (.ifCond .lt off, 3)) (ht : (pc : Int) + off = (tgt : Int)) (kt : x < 0 → ax_j X tgt L st h k n) (kf : ¬ x < 0 → ax_j X (pc + 3) L st h k n) : ax_j X pc L (.int x :: st) h k n := by
  obtain ⟨p, l, e, R, s, m, args, below, meth, c, Z, D, g⟩ := X
  exact fun H locs ls hR hS hL => lv_if_lt hX.1 hX.2.1 hd ht (fun q => kt q H locs ls hR hS hL) (fun q => kf q H locs ls hR hS hL)
theorem ax_icmp_lt (hX : ax_ok X M d) {x y : Int32} {off : Int} {tgt : Nat} (hd : decode M.2.1 pc = .ok (.if_icmp .lt off, 3)) (ht : (pc : Int) + off = (tgt : Int)) (kt : x < y → ax_j X tgt L st h k n) (kf : ¬ x < y → ax_j X (pc + 3) L st h k n) : ax_j X pc L (.int y :: .int x :: st) h k n := by
  obtain ⟨p, l, e, R, s, m, args, below, meth, c, Z, D, g⟩ := X
  exact fun H locs ls hR hS hL => lv_icmp_lt hX.1 hX.2.1 hd ht (fun q => kt q H locs ls hR hS hL) (fun q => kf q H locs ls hR hS hL)
theorem ax_if_ge (hX : ax_ok X M d) {x : Int32} {off : Int} {tgt : Nat} (hd : decode M.2.1 pc = .ok (.ifCond .ge off, 3)) (ht : (pc : Int) + off = (tgt : Int)) (kt : 0 ≤ x → ax_j X tgt L st h k n) (kf : ¬ 0 ≤ x → ax_j X (pc + 3) L st h k n) : ax_j X pc L (.int x :: st) h k n := by
  obtain ⟨p, l, e, R, s, m, args, below, meth, c, Z, D, g⟩ := X
  exact fun H locs ls hR hS hL => lv_if_ge hX.1 hX.2.1 hd ht (fun q => kt q H locs ls hR hS hL) (fun q => kf q H locs ls hR hS hL)
theorem ax_icmp_ge (hX : ax_ok X M d) {x y : Int32} {off : Int} {tgt : Nat} (hd : decode M.2.1 pc = .ok (.if_icmp .ge off, 3)) (ht : (pc : Int) + off = (tgt : Int)) (kt : y ≤ x → ax_j X tgt L st h k n) (kf : ¬ y ≤ x → ax_j X (pc + 3) L st h k n) : ax_j X pc L (.int y :: .int x :: st) h k n := by
  obtain ⟨p, l, e, R, s, m, args, below, meth, c, Z, D, g⟩ := X
  exact fun H locs ls hR hS hL => lv_icmp_ge hX.1 hX.2.1 hd ht (fun q => kt q H locs ls hR hS hL) (fun q => kf q H locs ls hR hS hL)
theorem ax_if_gt (hX : ax_ok X M d) {x : Int32} {off : Int} {tgt : Nat} (hd : decode M.2.1 pc = .ok (.ifCond .gt off, 3)) (ht : (pc : Int) + off = (tgt : Int)) (kt : 0 < x → ax_j X tgt L st h k n) (kf : ¬ 0 < x → ax_j X (pc + 3) L st h k n) : ax_j X pc L (.int x :: st) h k n := by
  obtain ⟨p, l, e, R, s, m, args, below, meth, c, Z, D, g⟩ := X
  exact fun H locs ls hR hS hL => lv_if_gt hX.1 hX.2.1 hd ht (fun q => kt q H locs ls hR hS hL) (fun q => kf q H locs ls hR hS hL)
theorem ax_icmp_gt (hX : ax_ok X M d) {x y : Int32} {off : Int} {tgt : Nat} (hd : decode M.2.1 pc = .ok (.if_icmp .gt off, 3)) (ht : (pc : Int) + off = (tgt : Int)) (kt : y < x → ax_j X tgt L st h k n) (kf : ¬ y < x → ax_j X (pc + 3) L st h k n) : ax_j X pc L (.int y :: .int x :: st) h k n := by
  obtain ⟨p, l, e, R, s, m, args, below, meth, c, Z, D, g⟩ := X
  exact fun H locs ls hR hS hL => lv_icmp_gt hX.1 hX.2.1 hd ht (fun q => kt q H locs ls hR hS hL) (fun q => kf q H locs ls hR hS hL)
theorem ax_if_le (hX : ax_ok X M d) {x : Int32} {off : Int} {tgt : Nat} (hd : decode M.2.1 pc = .ok (.ifCond .le off, 3)) (ht : (pc : Int) + off = (tgt : Int)) (kt : x ≤ 0 → ax_j X tgt L st h k n) (kf : ¬ x ≤ 0 → ax_j X (pc + 3) L st h k n) : ax_j X pc L (.int x :: st) h k n := by
  obtain ⟨p, l, e, R, s, m, args, below, meth, c, Z, D, g⟩ := X
  exact fun H locs ls hR hS hL => lv_if_le hX.1 hX.2.1 hd ht (fun q => kt q H locs ls hR hS hL) (fun q => kf q H locs ls hR hS hL)
theorem ax_icmp_le (hX : ax_ok X M d) {x y : Int32} {off : Int} {tgt : Nat} (hd : decode M.2.1 pc = .ok (.if_icmp .le off, 3)) (ht : (pc : Int) + off = (tgt : Int)) (kt : x ≤ y → ax_j X tgt L st h k n) (kf : ¬ x ≤ y → ax_j X (pc + 3) L st h k n) : ax_j X pc L (.int y :: .int x :: st) h k n := by
  obtain ⟨p, l, e, R, s, m, args, below, meth, c, Z, D, g⟩ := X
  exact fun H locs ls hR hS hL => lv_icmp_le hX.1 hX.2.1 hd ht (fun q => kt q H locs ls hR hS hL) (fun q => kf q H locs ls hR hS hL)
theorem ax_goto (hX : ax_ok X M d) {off : Int} {tgt : Nat} (hd : decode M.2.1 pc = .ok (.goto off, 3)) (ht : (pc : Int) + off = (tgt : Int)) (kk : ax_j X tgt L st h k n) : ax_j X pc L st h k n := by
  obtain ⟨p, l, e, R, s, m, args, below, meth, c, Z, D, g⟩ := X
  exact fun H locs ls hR hS hL => lv_goto hX.1 hX.2.1 hd ht (kk H locs ls hR hS hL)
end AXR
end
section
/-! rules over the abstract heap: arrays, objects, null, switches -/
abbrev ax_ia (t n : Nat) (a : Nat → Int32) : ax_C := .inl (t, n, fun j => .int (a j))
abbrev ax_la (n : Nat) (a : Nat → Int64) : ax_C := .inl (1, n, fun j => .long (a j))
abbrev ax_ra (t n : Nat) (a : Nat → Option Nat) : ax_C := .inl (t, n, fun j => va_rf (a j))
abbrev ax_ob (ci : Nat) (fs : Nat → Value) : ax_C := .inr (ci, fs)
theorem ax_at.store {D : va_G} {g : Nat → Nat} {U : State} {H H1 : Heap} {a t n i : Nat} {f : Nat → Value} {cell : Cell} {x : Value} (h1 : H[a]? = some cell) (h : ax_at D g U H a (.inl (t, n, f))) (e : H1[a]? = some (cell.setSlot i (ax_v g x))) (hi : i < n) : ax_at D g U H1 a (.inl (t, n, updV f i x)) := by
  obtain ⟨cell', q1, q2, q3, q4, q5, q6, q7⟩ := h
  cases h1.symm.trans q1
  refine ⟨_, e, q2, q3, q4, by rw [k2_slotsz]; exact q5, by rw [k2_slotsz]; exact q6, fun j hj => ?_⟩
  unfold Cell.setSlot updV
  by_cases hji : j = i
  · subst hji
    rw [if_pos rfl]
    have : j < cell.slots.size := by omega
    simp [this]
  · rw [if_neg hji]
    have := q7 j hj
    simp [Array.getElem?_setIfInBounds, Ne.symm hji, this]
theorem ax_nin {i : Int32} {n N : Nat} (h : vp_in i n) (hn : n ≤ N) : ¬ (i < 0 ∨ N ≤ i.toNatClampNeg) := fun q => q.elim (fun z => h (Or.inl z)) (fun z => h (Or.inr (by omega)))
theorem ax_inlt {i : Int32} {n : Nat} (h : vp_in i n) : i.toNatClampNeg < n := Nat.not_le.mp fun q => h (Or.inr q)
theorem ax_updI (a : Nat → Int32) (i : Nat) (x : Int32) : updV (fun j => .int (a j)) i (.int x) = fun j => .int (upd a i x j) := by
  funext j; unfold updV upd; split <;> rfl
theorem ax_updL (a : Nat → Int64) (i : Nat) (x : Int64) : updV (fun j => .long (a j)) i (.long x) = fun j => .long (vp_updL a i x j) := by
  funext j; unfold updV vp_updL; split <;> rfl
theorem ax_updR (a : Nat → Option Nat) (i : Nat) (x : Nat) : updV (fun j => va_rf (a j)) i (.ref x) = fun j => va_rf (va_up a i (some x) j) := by
  funext j; unfold updV va_up; split <;> rfl
section AXH
variable {X : ax_X} {M : ax_M} {d pc k n : Nat} {L : List (Option Value)} {st : List Value} {h : ax_H}
theorem ax_lcmp (hX : ax_ok X M d) {x y : Int64} (hd : decode M.2.1 pc = .ok (.lcmp, 1)) (kk : ax_j X (pc + 1) L (.int (lg_cmp x y) :: st) h k n) : ax_j X pc L (.long y :: .long x :: st) h k n := by
  obtain ⟨p, l, e, R, s, m, args, below, meth, c, Z, D, g⟩ := X
  exact fun H locs ls hR hS hL => W.lcmp hX.1 hX.2.1 hd (kk H locs ls hR hS hL)
theorem ax_ifnull (hX : ax_ok X M d) {r : Option Nat} {v : Value} {off : Int} {tgt : Nat} (hv : v = va_rf r) (hd : decode M.2.1 pc = .ok (.ifnull off, 3)) (ht : (pc : Int) + off = (tgt : Int)) (kt : r = none → ax_j X tgt L st h k n) (kf : ∀ a, r = some a → ax_j X (pc + 3) L st h k n) : ax_j X pc L (v :: st) h k n := by
  obtain ⟨p, l, e, R, s, m, args, below, meth, c, Z, D, g⟩ := X
  subst hv
  cases r with
  | none => exact fun H locs ls hR hS hL => lv_ifnullN hX.1 hX.2.1 hd ht (kt rfl H locs ls hR hS hL)
  | some a => exact fun H locs ls hR hS hL => lv_ifnull hX.1 hX.2.1 hd (kf a rfl H locs ls hR hS hL)
theorem ax_ifnonnull (hX : ax_ok X M d) {r : Option Nat} {v : Value} {off : Int} {tgt : Nat} (hv : v = va_rf r) (hd : decode M.2.1 pc = .ok (.ifnonnull off, 3)) (ht : (pc : Int) + off = (tgt : Int)) (kt : ∀ a, r = some a → ax_j X tgt L st h k n) (kf : r = none → ax_j X (pc + 3) L st h k n) : ax_j X pc L (v :: st) h k n := by
  obtain ⟨p, l, e, R, s, m, args, below, meth, c, Z, D, g⟩ := X
  subst hv
  cases r with
  | none => exact fun H locs ls hR hS hL => lv_ifnonnullN hX.1 hX.2.1 hd (kf rfl H locs ls hR hS hL)
  | some a => exact fun H locs ls hR hS hL => lv_ifnonnull hX.1 hX.2.1 hd ht (kt a rfl H locs ls hR hS hL)
theorem ax_lookup (hX : ax_ok X M d) {x : Int32} {dflt : Int} {ps : Array (Int × Int)} {len : Nat} {off : Int} {tgt : Nat} (hd : decode M.2.1 pc = .ok (.lookupswitch dflt ps, len)) (hp : (ps.toList.zip (ps.toList.drop 1)).all (fun (a, next) => a.1 < next.1) = true) (ho : Op.lookupswitch.offset ps.toList dflt x.toInt = off) (ht : (pc : Int) + off = (tgt : Int)) (kk : ax_j X tgt L st h k n) : ax_j X pc L (.int x :: st) h k n := by
  obtain ⟨p, l, e, R, s, m, args, below, meth, c, Z, D, g⟩ := X
  exact fun H locs ls hR hS hL => lv_lookup hX.1 hX.2.1 hd hp ho ht (kk H locs ls hR hS hL)
theorem ax_tableOut (hX : ax_ok X M d) {x : Int32} {dflt lo hi : Int} {offs : Array Int} {len : Nat} {tgt : Nat} (hd : decode M.2.1 pc = .ok (.tableswitch dflt lo hi offs, len)) (hx : x.toInt < lo ∨ hi < x.toInt) (ht : (pc : Int) + dflt = (tgt : Int)) (kk : ax_j X tgt L st h k n) : ax_j X pc L (.int x :: st) h k n := by
  obtain ⟨p, l, e, R, s, m, args, below, meth, c, Z, D, g⟩ := X
  exact fun H locs ls hR hS hL => lv_tableOut hX.1 hX.2.1 hd hx ht (kk H locs ls hR hS hL)
theorem ax_tableIn (hX : ax_ok X M d) {x : Int32} {dflt lo hi : Int} {offs : Array Int} {len : Nat} {off : Int} {tgt : Nat} (hd : decode M.2.1 pc = .ok (.tableswitch dflt lo hi offs, len)) (h1 : ¬ x.toInt < lo) (h2 : ¬ hi < x.toInt) (ho : offs[(x.toInt - lo).toNat]? = some off) (ht : (pc : Int) + off = (tgt : Int)) (kk : ax_j X tgt L st h k n) : ax_j X pc L (.int x :: st) h k n := by
  obtain ⟨p, l, e, R, s, m, args, below, meth, c, Z, D, g⟩ := X
  exact fun H locs ls hR hS hL => lv_tableIn hX.1 hX.2.1 hd h1 h2 ho ht (kk H locs ls hR hS hL)
theorem ax_iaload (hX : ax_ok X M d) {a N : Nat} {f : Nat → Int32} {i : Int32} (hh : h.2 a = ax_ia 0 N f) (hi : vp_in i N) (hd : decode M.2.1 pc = .ok (.iaload, 1)) (kk : ax_j X (pc + 1) L (.int (f i.toNatClampNeg) :: st) h k n) : ax_j X pc L (.int i :: .ref a :: st) h k n := by
  obtain ⟨p, l, e, R, s, m, args, below, meth, c, Z, D, g⟩ := X
  refine fun H locs ls hR hS hL => ?_
  have hc := hR.2.2 a (by rw [hh]; exact (by decide : 0 < 6))
  rw [hh] at hc
  obtain ⟨cell, q1, q2, q3, q4, q5, q6, q7⟩ := hc
  exact W.iald hX.1 hX.2.1 q1 q2 q3 (ax_nin hi q5) (q7 _ (ax_inlt hi)) rfl rfl hd (kk H locs ls hR hS hL)
theorem ax_laload (hX : ax_ok X M d) {a N : Nat} {f : Nat → Int64} {i : Int32} (hh : h.2 a = ax_la N f) (hi : vp_in i N) (hd : decode M.2.1 pc = .ok (.laload, 1)) (kk : ax_j X (pc + 1) L (.long (f i.toNatClampNeg) :: st) h k n) : ax_j X pc L (.int i :: .ref a :: st) h k n := by
  obtain ⟨p, l, e, R, s, m, args, below, meth, c, Z, D, g⟩ := X
  refine fun H locs ls hR hS hL => ?_
  have hc := hR.2.2 a (by rw [hh]; exact (by decide : 1 < 6))
  rw [hh] at hc
  obtain ⟨cell, q1, q2, q3, q4, q5, q6, q7⟩ := hc
  exact W.lald hX.1 hX.2.1 q1 q2 q3 (ax_nin hi q5) (q7 _ (ax_inlt hi)) rfl rfl hd (kk H locs ls hR hS hL)
theorem ax_baload (hX : ax_ok X M d) {a N : Nat} {f : Nat → Int32} {i : Int32} (hh : h.2 a = ax_ia 2 N f) (hi : vp_in i N) (hd : decode M.2.1 pc = .ok (.baload, 1)) (kk : ax_j X (pc + 1) L (.int (f i.toNatClampNeg) :: st) h k n) : ax_j X pc L (.int i :: .ref a :: st) h k n := by
  obtain ⟨p, l, e, R, s, m, args, below, meth, c, Z, D, g⟩ := X
  refine fun H locs ls hR hS hL => ?_
  have hc := hR.2.2 a (by rw [hh]; exact (by decide : 2 < 6))
  rw [hh] at hc
  obtain ⟨cell, q1, q2, q3, q4, q5, q6, q7⟩ := hc
  exact W.bald hX.1 hX.2.1 q1 q2 q3 (ax_nin hi q5) (q7 _ (ax_inlt hi)) rfl rfl hd (kk H locs ls hR hS hL)
theorem ax_zaload (hX : ax_ok X M d) {a N : Nat} {f : Nat → Int32} {i : Int32} (hh : h.2 a = ax_ia 3 N f) (hi : vp_in i N) (hd : decode M.2.1 pc = .ok (.baload, 1)) (kk : ax_j X (pc + 1) L (.int (f i.toNatClampNeg) :: st) h k n) : ax_j X pc L (.int i :: .ref a :: st) h k n := by
  obtain ⟨p, l, e, R, s, m, args, below, meth, c, Z, D, g⟩ := X
  refine fun H locs ls hR hS hL => ?_
  have hc := hR.2.2 a (by rw [hh]; exact (by decide : 3 < 6))
  rw [hh] at hc
  obtain ⟨cell, q1, q2, q3, q4, q5, q6, q7⟩ := hc
  exact W.zald hX.1 hX.2.1 q1 q2 q3 (ax_nin hi q5) (q7 _ (ax_inlt hi)) rfl rfl hd (kk H locs ls hR hS hL)
theorem ax_aaload (hX : ax_ok X M d) {a t N : Nat} {f : Nat → Option Nat} {i : Int32} {v : Value} (hh : h.2 a = ax_ra t N f) (ht : t = 4 ∨ t = 5) (hi : vp_in i N) (hv : va_rf (f i.toNatClampNeg) = v) (hd : decode M.2.1 pc = .ok (.aaload, 1)) (kk : ax_j X (pc + 1) L (v :: st) h k n) : ax_j X pc L (.int i :: .ref a :: st) h k n := by
  obtain ⟨p, l, e, R, s, m, args, below, meth, c, Z, D, g⟩ := X
  subst hv
  refine fun H locs ls hR hS hL => ?_
  have hc := hR.2.2 a (by rw [hh]; show t < 6; omega)
  rw [hh] at hc
  obtain ⟨cell, q1, q2, q3, q4, q5, q6, q7⟩ := hc
  exact W.aald hX.1 hX.2.1 q1 q2 (by rcases ht with rfl | rfl <;> rfl) q3 (ax_nin hi q5) (q7 _ (ax_inlt hi)) rfl rfl hd (kk H locs ls hR hS hL)
theorem ax_alen (hX : ax_ok X M d) {a t N : Nat} {f : Nat → Value} (hh : h.2 a = .inl (t, N, f)) (ht : t < 6) (hd : decode M.2.1 pc = .ok (.arraylength, 1)) (kk : ax_j X (pc + 1) L (.int (nI N) :: st) h k n) : ax_j X pc L (.ref a :: st) h k n := by
  obtain ⟨p, l, e, R, s, m, args, below, meth, c, Z, D, g⟩ := X
  refine fun H locs ls hR hS hL => ?_
  have hc := hR.2.2 a (by rw [hh]; exact ht)
  rw [hh] at hc
  obtain ⟨cell, q1, q2, q3, q4, q5, q6, q7⟩ := hc
  exact W.alen hX.1 hX.2.1 q1 q2 q6 rfl rfl hd (kk H locs ls hR hS hL)
theorem ax_iastore (hX : ax_ok X M d) {a N : Nat} {f : Nat → Int32} {i x : Int32} (hh : h.2 a = ax_ia 0 N f) (ha : 2 ≤ a) (hi : vp_in i N) (hd : decode M.2.1 pc = .ok (.iastore, 1)) (kk : ax_j X (pc + 1) L st (h.1, va_up h.2 a (ax_ia 0 N (upd f i.toNatClampNeg x))) k n) : ax_j X pc L (.int x :: .int i :: .ref a :: st) h k n := by
  obtain ⟨p, l, e, R, s, m, args, below, meth, c, Z, D, g⟩ := X
  refine fun H locs ls hR hS hL => ?_
  have hG : ax_G g := hX.2.2.2.2.2.2.2.2.2.1
  have hc := hR.2.2 a (by rw [hh]; exact (by decide : 0 < 6))
  rw [hh] at hc
  have hc0 := hc
  obtain ⟨cell, q1, q2, q3, q4, q5, q6, q7⟩ := hc
  refine W.iast hX.1 hX.2.1 q1 q2 q3 (ax_nin hi q5) rfl rfl hd fun H1 e1 z oq => kk H1 _ ls (hR.set hG ha z oq ?_) (hS.put z oq (hG.ge ha)) hL
  have := ax_at.store (x := .int x) q1 hc0 e1 (ax_inlt hi)
  rwa [ax_updI] at this
theorem ax_lastore (hX : ax_ok X M d) {a N : Nat} {f : Nat → Int64} {i : Int32} {x : Int64} (hh : h.2 a = ax_la N f) (ha : 2 ≤ a) (hi : vp_in i N) (hd : decode M.2.1 pc = .ok (.lastore, 1)) (kk : ax_j X (pc + 1) L st (h.1, va_up h.2 a (ax_la N (vp_updL f i.toNatClampNeg x))) k n) : ax_j X pc L (.long x :: .int i :: .ref a :: st) h k n := by
  obtain ⟨p, l, e, R, s, m, args, below, meth, c, Z, D, g⟩ := X
  refine fun H locs ls hR hS hL => ?_
  have hG : ax_G g := hX.2.2.2.2.2.2.2.2.2.1
  have hc := hR.2.2 a (by rw [hh]; exact (by decide : 1 < 6))
  rw [hh] at hc
  have hc0 := hc
  obtain ⟨cell, q1, q2, q3, q4, q5, q6, q7⟩ := hc
  refine W.last hX.1 hX.2.1 q1 q2 q3 (ax_nin hi q5) rfl rfl hd fun H1 e1 z oq => kk H1 _ ls (hR.set hG ha z oq ?_) (hS.put z oq (hG.ge ha)) hL
  have := ax_at.store (x := .long x) q1 hc0 e1 (ax_inlt hi)
  rwa [ax_updL] at this
theorem ax_bastore (hX : ax_ok X M d) {a N : Nat} {f : Nat → Int32} {i x : Int32} (hh : h.2 a = ax_ia 2 N f) (ha : 2 ≤ a) (hi : vp_in i N) (hd : decode M.2.1 pc = .ok (.bastore, 1)) (kk : ax_j X (pc + 1) L st (h.1, va_up h.2 a (ax_ia 2 N (upd f i.toNatClampNeg x.toInt8.toInt32))) k n) : ax_j X pc L (.int x :: .int i :: .ref a :: st) h k n := by
  obtain ⟨p, l, e, R, s, m, args, below, meth, c, Z, D, g⟩ := X
  refine fun H locs ls hR hS hL => ?_
  have hG : ax_G g := hX.2.2.2.2.2.2.2.2.2.1
  have hc := hR.2.2 a (by rw [hh]; exact (by decide : 2 < 6))
  rw [hh] at hc
  have hc0 := hc
  obtain ⟨cell, q1, q2, q3, q4, q5, q6, q7⟩ := hc
  refine W.bast hX.1 hX.2.1 q1 q2 q3 (ax_nin hi q5) rfl rfl hd fun H1 e1 z oq => kk H1 _ ls (hR.set hG ha z oq ?_) (hS.put z oq (hG.ge ha)) hL
  have := ax_at.store (x := .int x.toInt8.toInt32) q1 hc0 e1 (ax_inlt hi)
  rwa [ax_updI] at this
theorem ax_zastore (hX : ax_ok X M d) {a N : Nat} {f : Nat → Int32} {i x : Int32} (hh : h.2 a = ax_ia 3 N f) (ha : 2 ≤ a) (hi : vp_in i N) (hd : decode M.2.1 pc = .ok (.bastore, 1)) (kk : ax_j X (pc + 1) L st (h.1, va_up h.2 a (ax_ia 3 N (upd f i.toNatClampNeg (x &&& 1)))) k n) : ax_j X pc L (.int x :: .int i :: .ref a :: st) h k n := by
  obtain ⟨p, l, e, R, s, m, args, below, meth, c, Z, D, g⟩ := X
  refine fun H locs ls hR hS hL => ?_
  have hG : ax_G g := hX.2.2.2.2.2.2.2.2.2.1
  have hc := hR.2.2 a (by rw [hh]; exact (by decide : 3 < 6))
  rw [hh] at hc
  have hc0 := hc
  obtain ⟨cell, q1, q2, q3, q4, q5, q6, q7⟩ := hc
  refine W.zast hX.1 hX.2.1 q1 q2 q3 (ax_nin hi q5) rfl rfl hd fun H1 e1 z oq => kk H1 _ ls (hR.set hG ha z oq ?_) (hS.put z oq (hG.ge ha)) hL
  have := ax_at.store (x := .int (x &&& 1)) q1 hc0 e1 (ax_inlt hi)
  rwa [ax_updI] at this
theorem ax_aastore (hX : ax_ok X M d) {a t N v ci : Nat} {f : Nat → Option Nat} {fs : Nat → Value} {i : Int32} {r : vw_C} (hh : h.2 a = ax_ra t N f) (ha : 2 ≤ a) (ht : t = 4 ∨ t = 5) (hv : h.2 v = ax_ob ci fs) (hc : vwCl[ci]? = some r) (hr : ax_ty t = .object r.1) (hi : vp_in i N) (hd : decode M.2.1 pc = .ok (.aastore, 1)) (kk : ax_j X (pc + 1) L st (h.1, va_up h.2 a (ax_ra t N (va_up f i.toNatClampNeg (some v)))) k n) : ax_j X pc L (.ref v :: .int i :: .ref a :: st) h k n := by
  obtain ⟨p, l, e, R, s, m, args, below, meth, c, Z, D, g⟩ := X
  refine fun H locs ls hR hS hL => ?_
  have hG : ax_G g := hX.2.2.2.2.2.2.2.2.2.1
  have hK : va_K D vwCl [] s := hX.2.2.2.2.2.2.2.2.1.1
  have hca := hR.2.2 a (by rw [hh]; show t < 6; omega)
  rw [hh] at hca
  have hc0 := hca
  obtain ⟨cell, q1, q2, q3, q4, q5, q6, q7⟩ := hca
  have hlt := ax_inlt hi
  have hcv := hR.2.2 v (by rw [hv]; show ci < 12; exact (List.getElem?_eq_some_iff.mp hc).1)
  rw [hv] at hcv
  obtain ⟨r', hr', cellV, g1, g2, g3, -⟩ := hcv
  have hcls := (hK.1 ci r hc).2
  have hra := q4 (by omega)
  rw [hr] at hra
  obtain ⟨kA, comp, k1, k2, k3, -⟩ := hra
  have hcomp : comp = D.1 ci := Option.some.inj (k3.symm.trans hcls.1)
  subst hcomp
  have hcls2 := hcls
  obtain ⟨kC, hkC, -⟩ := hcls.2
  refine W.aast hX.1 hX.2.1 q1 q2.1 q3 k1 k2 rfl hkC ⟨fun q => hi (Or.inl q), by omega⟩ g1 (fun q h => by rw [g3] at h; cases h) (by rw [g2]; exact hkC) (by rw [g2]; exact va_assign hcls2) rfl rfl hd fun H1 e1 z oq => kk H1 _ ls (hR.set hG ha z oq ?_) (hS.put z oq (hG.ge ha)) hL
  have := ax_at.store (x := .ref v) q1 hc0 e1 (ax_inlt hi)
  rwa [ax_updR] at this
/-- a class of the tables, by its number -/
def ax_cls (ci : Nat) (C : String) (T : u_T) (N : Nat) (ty : Nat → FieldType) : Prop := vwCl[ci]? = some (C, T, N) ∧ (∀ w ∈ u_ws C T N, w ∈ ax_ws) ∧ (∀ k, k < N → parseFieldDescriptor (T k).2.2.1 = some (ty k)) ∧ (∀ a, a < N → ∀ b, b < N → a ≠ b → (T a).2.1 ≠ (T b).2.1)
/-- what links a field: the entry idx of class own is field fi of class ci, of type fty, final or not -/
def ax_FW (own : String) (idx ci fi : Nat) (fty : FieldType) (fin : Bool) (C : String) : Prop := ∃ (T : u_T) (N : Nat) (ty : Nat → FieldType), ax_cls ci C T N ty ∧ fi < N ∧ (T fi).1 = C ∧ ty fi = fty ∧ (T fi).2.2.2 = fin ∧ Cond.fieldLink own idx C (T fi).2.1 (T fi).2.2.1 ∈ ax_ws
theorem ax_getf (hX : ax_ok X M d) {a ci fi idx : Nat} {fs : Nat → Value} {fty : FieldType} {fin : Bool} {C : String} {v : Value} (hw : ax_FW M.1.cls idx ci fi fty fin C) (hh : h.2 a = ax_ob ci fs) (hv : fs fi = v) (hd : decode M.2.1 pc = .ok (.getfield idx, 3)) (kk : ax_j X (pc + 3) L (v :: st) h k n) : ax_j X pc L (.ref a :: st) h k n := by
  obtain ⟨p, l, e, R, s, m, args, below, meth, c, Z, D, g⟩ := X
  subst hv
  refine fun H locs ls hR hS hL => ?_
  obtain ⟨T, N, ty, ⟨hc, hin, hty, hnm⟩, hfi, hTC, hft, hfin, hlink⟩ := hw
  have hK : va_K D vwCl [] s := hX.2.2.2.2.2.2.2.2.1.1
  have hts := hX.2.2.2.2.2.1
  have hca := hR.2.2 a (by rw [hh]; show ci < 12; exact (List.getElem?_eq_some_iff.mp hc).1)
  rw [hh] at hca
  obtain ⟨r, h1, cell, q1, q2, q3, q4⟩ := hca
  have hr : r = (C, T, N) := Option.some.inj (h1.symm.trans hc)
  subst hr
  obtain ⟨hSl, hfc, kC, hkC, hkind⟩ := hK.1 ci _ hc
  obtain ⟨cf, kf, ii, f, hi, hsl⟩ := hSl fi hfi
  have hi' := hi
  dsimp only at hi'
  rw [hTC] at hi'
  refine W.getf hX.1 hX.2.1 hX.2.2.2.2.1 (hts _ hlink) hi' (u_facts hfc hkC (u_lays hts hin hfi) hi).1 q1 (by rw [q3]; exact fun h => by cases h) (v := ax_v g (fs fi)) ?_ rfl rfl hd (kk H locs ls hR hS hL)
  rw [hsl, q4 fi hfi]
theorem ax_vty {g : Nat → Nat} {ty : FieldType} {v : Value} (hn : narrow ty v = v) (hf : fits ty v = true) : narrow ty (ax_v g v) = ax_v g v ∧ fits ty (ax_v g v) = true := by
  cases v with
  | ref a => cases ty <;> first | exact ⟨rfl, rfl⟩ | exact absurd hf (by simp [fits])
  | _ => exact ⟨hn, hf⟩
theorem ax_vup {g : Nat → Nat} (fs : Nat → Value) (fi : Nat) (v : Value) (j : Nat) : updV (fun k => ax_v g (fs k)) fi (ax_v g v) j = ax_v g (va_up fs fi v j) := by
  unfold updV va_up; split <;> rfl
theorem ax_putf (hX : ax_ok X M d) {a ci fi idx : Nat} {fs : Nat → Value} {fty : FieldType} {C : String} {v : Value} (hw : ax_FW M.1.cls idx ci fi fty false C) (hh : h.2 a = ax_ob ci fs) (ha : 2 ≤ a) (hn : narrow fty v = v) (hf : fits fty v = true) (hd : decode M.2.1 pc = .ok (.putfield idx, 3)) (kk : ax_j X (pc + 3) L st (h.1, va_up h.2 a (ax_ob ci (va_up fs fi v))) k n) : ax_j X pc L (v :: .ref a :: st) h k n := by
  obtain ⟨p, l, e, R, s, m, args, below, meth, c, Z, D, g⟩ := X
  refine fun H locs ls hR hS hL => ?_
  obtain ⟨T, N, ty, ⟨hc, hin, hty, hnm⟩, hfi, hTC, hft, hfin, hlink⟩ := hw
  have hG : ax_G g := hX.2.2.2.2.2.2.2.2.2.1
  have hK : va_K D vwCl [] s := hX.2.2.2.2.2.2.2.2.1.1
  have hts := hX.2.2.2.2.2.1
  have hca := hR.2.2 a (by rw [hh]; show ci < 12; exact (List.getElem?_eq_some_iff.mp hc).1)
  rw [hh] at hca
  obtain ⟨r, h1, cell, q1, q2, q3, q4⟩ := hca
  have hr : r = (C, T, N) := Option.some.inj (h1.symm.trans hc)
  subst hr
  have hap := va_apart (own := C) hts hin ty hty hnm hK hc
  obtain ⟨hSl, hfc, kC, hkC, hkind⟩ := hK.1 ci _ hc
  obtain ⟨cf, kf, ii, f, hi, hsl⟩ := hSl fi hfi
  have hi' := hi
  dsimp only at hi'
  rw [hTC] at hi'
  have hlay := hts _ (hin _ (u_in_lay hfi))
  unfold u_lay at hlay
  rw [if_neg (by rw [hfin]; decide)] at hlay
  have hst := (u_facts hfc hkC (u_lays hts hin hfi) hi).1
  have hvt := ax_vty (g := g) hn hf
  have h6 := u_store hfc hkC hkind hlay hi ((hty fi hfi).trans (by rw [hft])) hvt.1 hvt.2
  refine W.putK hX.1 hX.2.1 (f := f) ⟨hX.2.2.2.2.1, hts _ hlink, ⟨_, _, _, hi'⟩, hst⟩ (by rw [q2]; exact h6) q1 q3 (by rw [hsl]; exact k2_hasslot (q4 fi hfi)) rfl rfl hd fun H1 e1 z oq => ?_
  rw [hsl] at e1 ⊢
  exact kk H1 _ ls (hR.set hG ha z oq ⟨_, hc, t_OB.to (V := updV (fun k => ax_v g (fs k)) fi (ax_v g v)) ⟨_, e1, q2, q3, t_set q4 hap hfi _⟩ (fun j _ => ax_vup fs fi v j)⟩) (hS.put z oq (hG.ge ha)) hL
theorem ax_putF (hX : ax_ok X M d) {a ci fi idx : Nat} {fs : Nat → Value} {fty : FieldType} {v : Value} (hw : ax_FW M.1.cls idx ci fi fty true M.1.cls) (hini : M.1.name = "<init>") (hh : h.2 a = ax_ob ci fs) (ha : 2 ≤ a) (hn : narrow fty v = v) (hf : fits fty v = true) (hd : decode M.2.1 pc = .ok (.putfield idx, 3)) (kk : ax_j X (pc + 3) L st (h.1, va_up h.2 a (ax_ob ci (va_up fs fi v))) k n) : ax_j X pc L (v :: .ref a :: st) h k n := by
  obtain ⟨p, l, e, R, s, m, args, below, meth, c, Z, D, g⟩ := X
  refine fun H locs ls hR hS hL => ?_
  obtain ⟨T, N, ty, ⟨hc, hin, hty, hnm⟩, hfi, hTC, hft, hfin, hlink⟩ := hw
  have hG : ax_G g := hX.2.2.2.2.2.2.2.2.2.1
  have hK : va_K D vwCl [] s := hX.2.2.2.2.2.2.2.2.1.1
  have hts := hX.2.2.2.2.2.1
  have hca := hR.2.2 a (by rw [hh]; show ci < 12; exact (List.getElem?_eq_some_iff.mp hc).1)
  rw [hh] at hca
  obtain ⟨r, h1, cell, q1, q2, q3, q4⟩ := hca
  have hr : r = (M.1.cls, T, N) := Option.some.inj (h1.symm.trans hc)
  subst hr
  have hap := va_apart (own := M.1.cls) hts hin ty hty hnm hK hc
  obtain ⟨hSl, hfc, kC, hkC, hkind⟩ := hK.1 ci _ hc
  obtain ⟨cf, kf, ii, f, hi, hsl⟩ := hSl fi hfi
  have hi' := hi
  dsimp only at hi'
  rw [hTC] at hi'
  have hlay := hts _ (hin _ (u_in_lay hfi))
  unfold u_lay at hlay
  rw [if_pos hfin] at hlay
  have hst := (u_facts hfc hkC (u_lays hts hin hfi) hi).1
  have hcf : m.cls = cf := by
    obtain ⟨_, _, c', _, _, _, -, -, hf', -, -, -, hown2, -⟩ := Cond.laysFinal_spec hlay
    have e1 : c' = cf := by have := hi.symm.trans hf'; simp at this; exact this.1.symm
    rw [hTC] at hown2
    rw [← e1]; exact Option.some.inj (hX.2.2.2.2.1.symm.trans hown2)
  have hvt := ax_vty (g := g) hn hf
  have h6 := u_fits hfc hkC hkind (Or.inr hlay) hi ((hty fi hfi).trans (by rw [hft])) hvt.1 hvt.2
  refine W.putFinK hX.1 hX.2.1 hX.2.2.2.2.1 (hts _ hlink) hi' hst hcf (hX.2.2.2.2.2.2.2.1.trans hini) (by rw [q2]; exact h6) q1 q3 (by rw [hsl]; exact k2_hasslot (q4 fi hfi)) rfl rfl hd fun H1 e1 z oq => ?_
  rw [hsl] at e1 ⊢
  exact kk H1 _ ls (hR.set hG ha z oq ⟨_, hc, t_OB.to (V := updV (fun k => ax_v g (fs k)) fi (ax_v g v)) ⟨_, e1, q2, q3, t_set q4 hap hfi _⟩ (fun j _ => ax_vup fs fi v j)⟩) (hS.put z oq (hG.ge ha)) hL
end AXH
end
section
/-! rules: making, statics, calls, answers, entry -/
theorem ax_nw.same {w : Cond} {u U : State} (h : u.vm = U.vm) (hw : ax_nw w u) : ax_nw w U := by
  cases w with
  | fieldLinkNest a i b n d h' => exact va_Nw.same rfl h hw
  | methodLinkNest a i x h' => exact va_Nw.same rfl h hw
  | arrayOver ty =>
    cases ty with
    | object C => exact va_AO.moved (by rw [h]; exact Vm.Alike.refl _) hw
    | _ => exact trivial
  | _ => exact trivial
theorem ax_T.same {D : va_G} {g : Nat → Nat} {u U : State} (h : u.vm = U.vm) (hh : u.heap = U.heap) (hT : ax_T D g u) : ax_T D g U :=
  ⟨va_K.moved (by rw [h]; exact Vm.Alike.refl _) hT.1, fun w hw => (hT.2.1 w hw).same h, by rw [← hh]; exact va_Z.moved (by rw [h]; exact Vm.Alike.refl _) hT.2.2⟩
def ax_Pc (D : va_G) (g : Nat → Nat) (A : List Value) (h : ax_H) : Array Value → State → Prop := fun v U => v = (A.map (ax_v g)).toArray ∧ ax_R D g U h U.heap ∧ ax_T D g U
def ax_Qc (D : va_G) (g : Nat → Nat) (Q : Option Value → ax_H → Prop) : Array Value → State → Outcome → State → Prop := fun _ st o t => (∃ (r : Option Value) (h' : ax_H), o = .returned (r.map (ax_v g)) ∧ Q r h' ∧ ax_R D g t h' t.heap) ∧ va_F (fun q => g 2 ≤ q) st t
/-- method M, called with A over the heap h, ends with Q of its answer and the heap behind it -/
def ax_K (d : Nat) (M : ax_M) (A : List Value) (h : ax_H) (Q : Option Value → ax_H → Prop) : Prop :=
  ∀ (l : Launch) (D : va_G) (g : Nat → Nat), ax_G g → Met l M.1 (.code M.1 M.2.1 M.2.2.1 M.2.2.2.1 :: ax_ws) (ax_rm d M) (ax_Pc D g A h) (ax_Qc D g Q) M.2.2.2.2.1 M.2.2.2.2.2 (fun q => g 2 ≤ q)
theorem ax_blind (D : va_G) (g : Nat → Nat) (A : List Value) (h : ax_H) : FrameBlind (ax_Pc D g A h) := fun a U g' mk q =>
  ⟨q.1, ax_R.moved (u := U) (U := U.calling g' mk a) (Vm.Alike.refl U.vm) q.2.1, ax_T.same (u := U) (U := U.calling g' mk a) rfl rfl q.2.2⟩
theorem ax_good {w : Cond} (hw : w ∈ ax_ws) : GoodIn ax_ws (w :: ax_ws) := by
  have key : ∀ x ∈ ax_ws, x ∈ ax_ws ∧ ((x.onTables && x.keeps) = true ∨ ∃ ty, x = .arrayClass ty) := fun x hx => ⟨hx, good_of_word (List.mem_filter.mp hx).2⟩
  intro x hx
  rcases List.mem_cons.mp hx with rfl | hx
  · exact key _ hw
  · exact key _ hx
/-- what every call of M wants: its class is there, its code, so many parameters -/
def ax_CW (M : ax_M) (np : Nat) : Prop := Cond.initialized M.1.cls ∈ ax_ws ∧ Cond.code M.1 M.2.1 M.2.2.1 M.2.2.2.1 ∈ ax_ws ∧ (M.1.cls ≠ "java/lang/invoke/MethodHandle" ∧ M.1.cls ≠ "java/lang/invoke/VarHandle" ∧ (parseMethodDescriptor M.1.desc).map (fun d => d.parameters.length) = some np) ∧ M.2.2.1 ≤ 45
section AXC
variable {p : Program} {l : Launch} {e : Env} {R : Room} {s : State} {m : MethodId} {args : Array Value} {below : List Frame} {meth : Method} {c : Code} {H : Heap} {locs : List Loc} {k n : Nat} {Z : State → Prop} {D : va_G} {g : Nat → Nat}
theorem ax_run {mc ms pc : Nat} {ls : Array Slot} {st0 rest : List Value} {a : Array Value} {Q : Option Value → ax_H → Prop} (hr : va_Run p l e R s m args below meth c H locs k n mc ms (F0 m pc ls st0) rest (ax_Qc D g Q a) (fun q => g 2 ≤ q)) (hS : va_S (fun q => g 2 ≤ q) s.heap H locs)
    (kk : ∀ (r : Option Value) (h' : ax_H) (H1 : Heap) (locs1 : List Loc), Q r h' → ax_R D g s h' H1 → va_S (fun q => g 2 ≤ q) s.heap H1 locs1 → W p l e R s m args below meth c H1 locs1 (k + mc) (n + ms) Z (F0 m (pc + 3) ls ((r.map (ax_v g)).toList ++ rest))) : W p l e R s m args below meth c H locs k n Z (F0 m pc ls st0) := by
  intro T hT X
  obtain ⟨v, st₀, t, T', L, h0, X', hL, e1, e2, ⟨⟨r, h', hv, hq, hR⟩, hz, hk⟩, st⟩ := hr T hT X
  cases hv
  rw [h0] at hz hk
  obtain ⟨t2, a1, b1⟩ := kk r h' T'.heap (locs ++ L) hq (by rw [e1]; exact hR.moved (by rw [← e2]; exact X'.warmed.alike.symm))
    ⟨Nat.le_trans hS.1 (by rw [e1]; exact hz), fun q h1 h2 => by rw [e1, hk q (Nat.lt_of_lt_of_le h1 hS.1) h2]; exact hS.2.1 q h1 h2, fun q hq => by
      rcases List.mem_append.mp hq with h | h
      · exact hS.2.2 q h
      · exact hL q h⟩ T' rfl X'
  exact ⟨t2, st t2 a1, b1⟩
end AXC
section AXM
variable {X : ax_X} {M M' : ax_M} {d pc k n np : Nat} {L : List (Option Value)} {st : List Value} {h : ax_H} {Q : Option Value → ax_H → Prop}
theorem ax_callB {R : Room} {s : State} {args : Array Value} {own : String} {idx : Nat} (hts : ∀ w ∈ ax_ws, w.before args s = true) (hl : Cond.methodLink own idx M'.1 ∈ ax_ws) (hc : ax_CW M' np) (hR : ax_ro R (d + 1) M) : CallB R s args own idx M'.1 M'.2.1 M'.2.2.1 M'.2.2.2.1 (.code M'.1 M'.2.1 M'.2.2.1 M'.2.2.2.1 :: ax_ws) (ax_rm d M') M'.2.2.2.2.1 M'.2.2.2.2.2 np :=
  callB_of np hts (ax_good hc.2.1) rfl rfl rfl (hts _ hc.1) (hts _ hl) hc.2.2.1 (by
    have h1 := hc.2.2.2
    have h2 := hR.1
    have h3 := hR.2.2.2
    exact ⟨h2, by show 8 + (M'.2.2.1 + 11) + 64 * d ≤ R.locals; omega⟩)
/-- a call of an instance's method -/
theorem ax_callV (hX : ax_ok X M (d + 1)) {idx a ci : Nat} {fs : Nat → Value} {A stk : List Value} {r : vw_C} (hl : Cond.methodLink M.1.cls idx M'.1 ∈ ax_ws) (hi : Cond.instanceMethod M'.1 ∈ ax_ws) (hs : Cond.selects M'.1.cls M'.1 M'.1 ∈ ax_ws) (hc : ax_CW M' np) (hh : h.2 a = ax_ob ci fs) (hcl : vwCl[ci]? = some r) (hrc : r.1 = M'.1.cls)
    (hst : stk = A.reverse ++ .ref a :: st) (hn : A.length = np) (hroom : (st.map fun v => v.category).sum ≤ 8) (hk : k + M'.2.2.2.2.1 ≤ M.2.2.2.2.1) (hn2 : n + M'.2.2.2.2.2 ≤ M.2.2.2.2.2) (hd : decode M.2.1 pc = .ok (.invokevirtual idx, 3)) (hK : ax_K d M' (.ref a :: A) h Q)
    (kk : ∀ r h', Q r h' → ax_j X (pc + 3) L (r.toList ++ st) h' (k + M'.2.2.2.2.1) (n + M'.2.2.2.2.2)) : ax_j X pc L stk h k n := by
  obtain ⟨p, l, e, R, s, m, args, below, meth, c, Z, D, g⟩ := X
  subst hst
  refine fun H locs ls hR hS hL => ?_
  obtain ⟨hx, hb, hml, hrt, hown, hts, hlk, hnm, hT, hG, hsz, hRm⟩ := hX
  have hca := hR.2.2 a (by rw [hh]; show ci < 12; exact (List.getElem?_eq_some_iff.mp hcl).1)
  rw [hh] at hca
  obtain ⟨r', hr', cellV, g1, g2, g3, -⟩ := hca
  have hcls := (hT.1.1 ci r hcl).2.1
  have hcat : ((st.map (ax_v g)).map fun v => v.category).sum ≤ 8 := by
    rw [List.map_map]
    have : ((fun v : Value => v.category) ∘ ax_v g) = fun v => v.category := by funext v; exact ax_cat g v
    rw [this]; exact hroom
  refine ax_run (a := (Value.ref (g a) :: A.map (ax_v g)).toArray) (va_runV (nL := c.maxLocals) (b := g a) (As := A.map (ax_v g)) (rest := st.map (ax_v g)) ⟨hx, hb, rfl, hown, hts⟩ (hK l D g hG) ⟨ax_callB hts hl hc hRm, hts _ hi, hts _ hs⟩ ⟨ax_blind D g _ h, ⟨cellV, g1, by rw [g3]; rfl, by rw [g2, ← hrc]; exact hcls⟩, fun U hU hW => ⟨rfl, by rw [hU]; exact hR.moved hW.alike, hT.moved hW (by rw [hU]; exact hS)⟩⟩ rfl (by rw [List.length_map]; exact hn) hL.1 (by simp [ax_v, F0]) (lv_room hcat) hd ⟨Nat.le_trans hk hRm.2.1, Nat.le_trans hn2 hRm.2.2.1⟩) hS ?_
  intro r2 h2 H1 locs1 hq hR1 hS1
  have := kk r2 h2 hq H1 locs1 ls hR1 hS1 hL
  rw [List.map_append] at this
  cases r2 <;> exact this
/-- a call of a static method -/
theorem ax_callS (hX : ax_ok X M (d + 1)) {idx : Nat} {A stk : List Value} (hl : Cond.methodLink M.1.cls idx M'.1 ∈ ax_ws) (hi : Cond.static M'.1 ∈ ax_ws) (hc : ax_CW M' np)
    (hst : stk = A.reverse ++ st) (hn : A.length = np) (hroom : (st.map fun v => v.category).sum ≤ 8) (hk : k + M'.2.2.2.2.1 ≤ M.2.2.2.2.1) (hn2 : n + M'.2.2.2.2.2 ≤ M.2.2.2.2.2) (hd : decode M.2.1 pc = .ok (.invokestatic idx, 3)) (hK : ax_K d M' A h Q)
    (kk : ∀ r h', Q r h' → ax_j X (pc + 3) L (r.toList ++ st) h' (k + M'.2.2.2.2.1) (n + M'.2.2.2.2.2)) : ax_j X pc L stk h k n := by
  obtain ⟨p, l, e, R, s, m, args, below, meth, c, Z, D, g⟩ := X
  subst hst
  refine fun H locs ls hR hS hL => ?_
  obtain ⟨hx, hb, hml, hrt, hown, hts, hlk, hnm, hT, hG, hsz, hRm⟩ := hX
  have hcat : ((st.map (ax_v g)).map fun v => v.category).sum ≤ 8 := by
    rw [List.map_map]
    have : ((fun v : Value => v.category) ∘ ax_v g) = fun v => v.category := by funext v; exact ax_cat g v
    rw [this]; exact hroom
  refine ax_run (a := (A.map (ax_v g)).toArray) (va_runS (nL := c.maxLocals) (As := A.map (ax_v g)) (rest := st.map (ax_v g)) ⟨hx, hb, rfl, hown, hts⟩ (hK l D g hG) ⟨ax_callB hts hl hc hRm, hts _ hi⟩ ⟨ax_blind D g _ h, fun U hU hW => ⟨rfl, by rw [hU]; exact hR.moved hW.alike, hT.moved hW (by rw [hU]; exact hS)⟩⟩ rfl (by rw [List.length_map]; exact hn) hL.1 (by simp [F0]) (lv_room hcat) hd ⟨Nat.le_trans hk hRm.2.1, Nat.le_trans hn2 hRm.2.2.1⟩) hS ?_
  intro r2 h2 H1 locs1 hq hR1 hS1
  have := kk r2 h2 hq H1 locs1 ls hR1 hS1 hL
  rw [List.map_append] at this
  cases r2 <;> exact this
/-- a constructor's call -/
theorem ax_callI (hX : ax_ok X M (d + 1)) {idx a : Nat} {A stk : List Value} (hl : Cond.methodLink M.1.cls idx M'.1 ∈ ax_ws) (hi : Cond.instanceMethod M'.1 ∈ ax_ws) (hc : ax_CW M' np) (hini : M'.1.name = "<init>") (hret : M'.2.2.2.1 = none)
    (hst : stk = A.reverse ++ .ref a :: st) (hn : A.length = np) (hroom : (st.map fun v => v.category).sum ≤ 8) (hk : k + M'.2.2.2.2.1 ≤ M.2.2.2.2.1) (hn2 : n + M'.2.2.2.2.2 ≤ M.2.2.2.2.2) (hd : decode M.2.1 pc = .ok (.invokespecial idx, 3)) (hK : ax_K d M' (.ref a :: A) h Q)
    (kk : ∀ r h', Q r h' → ax_j X (pc + 3) L (r.toList ++ st) h' (k + M'.2.2.2.2.1) (n + M'.2.2.2.2.2)) : ax_j X pc L stk h k n := by
  obtain ⟨p, l, e, R, s, m, args, below, meth, c, Z, D, g⟩ := X
  subst hst
  refine fun H locs ls hR hS hL => ?_
  obtain ⟨hx, hb, hml, hrt, hown, hts, hlk, hnm, hT, hG, hsz, hRm⟩ := hX
  have hcat : ((st.map (ax_v g)).map fun v => v.category).sum ≤ 8 := by
    rw [List.map_map]
    have : ((fun v : Value => v.category) ∘ ax_v g) = fun v => v.category := by funext v; exact ax_cat g v
    rw [this]; exact hroom
  have hcb := ax_callB (M := M) (d := d) (R := R) hts hl hc hRm
  have hM := hK l D g hG
  rw [hret] at hcb hM
  refine ax_run (a := (Value.ref (g a) :: A.map (ax_v g)).toArray) (va_runI (nL := c.maxLocals) (b := g a) (As := A.map (ax_v g)) (rest := st.map (ax_v g)) ⟨hx, hb, rfl, hown, hts⟩ hM ⟨hcb, hini, hts _ hi⟩ ⟨ax_blind D g _ h, fun U hU hW => ⟨rfl, by rw [hU]; exact hR.moved hW.alike, hT.moved hW (by rw [hU]; exact hS)⟩⟩ rfl (by rw [List.length_map]; exact hn) hL.1 (by simp [ax_v, F0]) (lv_room hcat) hd ⟨Nat.le_trans hk hRm.2.1, Nat.le_trans hn2 hRm.2.2.1⟩) hS ?_
  intro r2 h2 H1 locs1 hq hR1 hS1
  have := kk r2 h2 hq H1 locs1 ls hR1 hS1 hL
  rw [List.map_append] at this
  cases r2 <;> exact this
/-- a private constructor's call, by a nest mate -/
theorem ax_callN (hX : ax_ok X M (d + 1)) {idx a : Nat} {host : String} {A stk : List Value} (hl : Cond.methodLinkNest M.1.cls idx M'.1 host ∈ ax_nest) (hi : Cond.instanceMethod M'.1 ∈ ax_ws) (hc : ax_CW M' np) (hini : M'.1.name = "<init>") (hret : M'.2.2.2.1 = none)
    (hst : stk = A.reverse ++ .ref a :: st) (hn : A.length = np) (hroom : (st.map fun v => v.category).sum ≤ 8) (hk : k + M'.2.2.2.2.1 ≤ M.2.2.2.2.1) (hn2 : n + M'.2.2.2.2.2 ≤ M.2.2.2.2.2) (hd : decode M.2.1 pc = .ok (.invokespecial idx, 3)) (hK : ax_K d M' (.ref a :: A) h Q)
    (kk : ∀ r h', Q r h' → ax_j X (pc + 3) L (r.toList ++ st) h' (k + M'.2.2.2.2.1) (n + M'.2.2.2.2.2)) : ax_j X pc L stk h k n := by
  obtain ⟨p, l, e, R, s, m, args, below, meth, c, Z, D, g⟩ := X
  subst hst
  refine fun H locs ls hR hS hL => ?_
  obtain ⟨hx, hb, hml, hrt, hown, hts, hlk, hnm, hT, hG, hsz, hRm⟩ := hX
  have hcat : ((st.map (ax_v g)).map fun v => v.category).sum ≤ 8 := by
    rw [List.map_map]
    have : ((fun v : Value => v.category) ∘ ax_v g) = fun v => v.category := by funext v; exact ax_cat g v
    rw [this]; exact hroom
  have hcn : va_CN R s args M.1.cls idx M'.1 host M'.2.1 M'.2.2.1 M'.2.2.2.1 (.code M'.1 M'.2.1 M'.2.2.1 M'.2.2.2.1 :: ax_ws) (ax_rm d M') M'.2.2.2.2.1 M'.2.2.2.2.2 np :=
    va_cnB np hts (ax_good hc.2.1) rfl rfl rfl (hT.2.1 _ hl) (hts _ hc.1) hc.2.2.1 (by
      have h1 := hc.2.2.2
      have h2 := hRm.1
      have h3 := hRm.2.2.2
      exact ⟨h2, by show 8 + (M'.2.2.1 + 11) + 64 * d ≤ R.locals; omega⟩)
  have hM := hK l D g hG
  rw [hret] at hcn hM
  refine ax_run (a := (Value.ref (g a) :: A.map (ax_v g)).toArray) (va_runIN (nL := c.maxLocals) (b := g a) (As := A.map (ax_v g)) (rest := st.map (ax_v g)) ⟨hx, hb, rfl, hown, hts⟩ hM ⟨hcn, hini, hts _ hi⟩ ⟨ax_blind D g _ h, fun U hU hW => ⟨rfl, by rw [hU]; exact hR.moved hW.alike, hT.moved hW (by rw [hU]; exact hS)⟩⟩ rfl (by rw [List.length_map]; exact hn) hL.1 (by simp [ax_v, F0]) (lv_room hcat) hd ⟨Nat.le_trans hk hRm.2.1, Nat.le_trans hn2 hRm.2.2.1⟩) hS ?_
  intro r2 h2 H1 locs1 hq hR1 hS1
  have := kk r2 h2 hq H1 locs1 ls hR1 hS1 hL
  rw [List.map_append] at this
  cases r2 <;> exact this
/-- Object's own constructor -/
theorem ax_obj (hX : ax_ok X M (d + 1)) {idx a : Nat} (hl : Cond.methodLink M.1.cls idx Lib.objectInit ∈ ax_ws) (hi : Cond.instanceMethod Lib.objectInit ∈ ax_ws) (hc : Cond.code Lib.objectInit ⟨#[0xb1]⟩ 1 none ∈ ax_ws) (hroom : (st.map fun v => v.category).sum ≤ 8) (hd : decode M.2.1 pc = .ok (.invokespecial idx, 3)) (kk : ax_j X (pc + 3) L st h k n) : ax_j X pc L (.ref a :: st) h k n := by
  obtain ⟨p, l, e, R, s, m, args, below, meth, c, Z, D, g⟩ := X
  refine fun H locs ls hR hS hL => ?_
  obtain ⟨hx, hb, hml, hrt, hown, hts, hlk, hnm, hT, hG, hsz, hRm⟩ := hX
  have hcat : ((st.map (ax_v g)).map fun v => v.category).sum ≤ 8 := by
    rw [List.map_map]
    have : ((fun v : Value => v.category) ∘ ax_v g) = fun v => v.category := by funext v; exact ax_cat g v
    rw [this]; exact hroom
  refine W.objInit hx hb hown (hts _ hl) (hts _ hi) (hts _ hc) rfl hL.1 rfl hd (by have := hRm.1; omega) (by have := hRm.2.2.2; show 2 * 0 + _ + 12 ≤ _; omega) (kk H locs ls hR hS hL)
/-- arrays are made -/
theorem ax_newI (hX : ax_ok X M d) {aty : ArrayType} {t N : Nat} {x : Int32} (hw : Cond.arrayClass (newarray.typeOf aty) ∈ ax_ws) (hty : newarray.typeOf aty = ax_ty t) (ht : t < 4) (hdf : defaultValue (ax_ty t) = .int 0) (hx : ¬ x < 0) (hN : x.toNatClampNeg = N) (hb8 : N * componentBytes (ax_ty t) ≤ 536870912) (hk : k + 1 ≤ M.2.2.2.2.1) (hn2 : n + N ≤ M.2.2.2.2.2) (hsm : N < 2 ^ 31) (hd : decode M.2.1 pc = .ok (.newarray aty, 2)) (kk : ax_j X (pc + 2) L (.ref h.1 :: st) (h.1 + 1, va_up h.2 h.1 (ax_ia t N (fun _ => 0))) (k + 1) (n + N)) : ax_j X pc L (.int x :: st) h k n := by
  obtain ⟨p, l, e, R, s, m, args, below, meth, c, Z, D, g⟩ := X
  refine fun H locs ls hR hS hL => ?_
  obtain ⟨hxx, hb, hml, hrt, hown, hts, hlk, hnm, hT, hG, hsz, hRm⟩ := hX
  refine W.newaK hxx hb (hts _ hw) rfl hd rfl hx hN (by rw [hty]; exact hb8) (Nat.le_trans hk hRm.2.1) (Nat.le_trans hn2 hRm.2.2.1) hR.1 fun H1 cA e1 z1 o1 hA => kk H1 locs ls (hR.push hG (by rw [z1, hR.1]) (fun q hq => o1 q (by rw [← hR.1]; exact hq)) ?_) ⟨Nat.le_trans hS.1 (by rw [z1, hR.1]; omega), fun q h1 h2 => (o1 q (by rw [← hR.1]; exact Nat.lt_of_lt_of_le h1 hS.1)).trans (hS.2.1 q h1 h2), hS.2.2⟩ hL
  rw [hty] at e1 hA
  refine ⟨_, e1, hA N _, fun q => (by cases q), fun q => absurd q (by omega), by rw [arrV_size]; exact Nat.le_refl _, by rw [arrV_size], fun j hj => ?_⟩
  rw [arrV_read _ _ hj, hdf]
  rfl
theorem ax_newL (hX : ax_ok X M d) {N : Nat} {x : Int32} (hw : Cond.arrayClass .long ∈ ax_ws) (hx : ¬ x < 0) (hN : x.toNatClampNeg = N) (hb8 : N * 8 ≤ 536870912) (hk : k + 1 ≤ M.2.2.2.2.1) (hn2 : n + N ≤ M.2.2.2.2.2) (hd : decode M.2.1 pc = .ok (.newarray .long, 2)) (kk : ax_j X (pc + 2) L (.ref h.1 :: st) (h.1 + 1, va_up h.2 h.1 (ax_la N (fun _ => 0))) (k + 1) (n + N)) : ax_j X pc L (.int x :: st) h k n := by
  obtain ⟨p, l, e, R, s, m, args, below, meth, c, Z, D, g⟩ := X
  refine fun H locs ls hR hS hL => ?_
  obtain ⟨hxx, hb, hml, hrt, hown, hts, hlk, hnm, hT, hG, hsz, hRm⟩ := hX
  refine W.newaK (atype := .long) hxx hb (hts _ hw) rfl hd rfl hx hN hb8 (Nat.le_trans hk hRm.2.1) (Nat.le_trans hn2 hRm.2.2.1) hR.1 fun H1 cA e1 z1 o1 hA => kk H1 locs ls (hR.push hG (by rw [z1, hR.1]) (fun q hq => o1 q (by rw [← hR.1]; exact hq)) ?_) ⟨Nat.le_trans hS.1 (by rw [z1, hR.1]; omega), fun q h1 h2 => (o1 q (by rw [← hR.1]; exact Nat.lt_of_lt_of_le h1 hS.1)).trans (hS.2.1 q h1 h2), hS.2.2⟩ hL
  refine ⟨_, e1, hA N _, fun q => (by cases q), fun q => absurd q (by omega), by rw [arrV_size]; exact Nat.le_refl _, by rw [arrV_size], fun j hj => ?_⟩
  rw [arrV_read _ _ hj]
  rfl
theorem ax_newR (hX : ax_ok X M d) {idx t N : Nat} {C : String} {x : Int32} (hl : Cond.classLink M.1.cls idx C ∈ ax_ws) (hw : Cond.arrayOver (.object C) ∈ ax_nest) (hty : ax_ty t = .object C) (hx : ¬ x < 0) (hN : x.toNatClampNeg = N) (hb8 : N * 4 ≤ 536870912) (hk : k + 1 ≤ M.2.2.2.2.1) (hn2 : n + N ≤ M.2.2.2.2.2) (hd : decode M.2.1 pc = .ok (.anewarray idx, 3)) (kk : ax_j X (pc + 3) L (.ref h.1 :: st) (h.1 + 1, va_up h.2 h.1 (ax_ra t N (fun _ => none))) (k + 1) (n + N)) : ax_j X pc L (.int x :: st) h k n := by
  obtain ⟨p, l, e, R, s, m, args, below, meth, c, Z, D, g⟩ := X
  refine fun H locs ls hR hS hL => ?_
  obtain ⟨hxx, hb, hml, hrt, hown, hts, hlk, hnm, hT, hG, hsz, hRm⟩ := hX
  subst hN
  have hov : va_AO C s := hT.2.1 _ hw
  refine W.anew hxx hb hown (hts _ hl) hov.use rfl hd rfl hx hb8 (Nat.le_trans hk hRm.2.1) (Nat.le_trans hn2 hRm.2.2.1) fun cA kA comp h1 h2 h3 h4 => ?_
  rw [hR.1]
  refine kk _ locs ls (hR.push hG (by simp) (fun q hq => by rw [Array.getElem?_push, if_neg (Nat.ne_of_lt hq)]) ?_) ⟨Nat.le_trans hS.1 (by simp), fun q g1 g2 => by rw [Array.getElem?_push, if_neg (Nat.ne_of_lt (Nat.lt_of_lt_of_le g1 hS.1))]; exact hS.2.1 q g1 g2, hS.2.2⟩ hL
  refine ⟨{ cls := cA, slots := Array.replicate x.toNatClampNeg .null, vm := .none }, by rw [← hR.1]; simp, ?_, fun q => (by cases q), fun _ => ?_, by simp, by simp, fun j hj => ?_⟩
  · rw [hty]; exact ⟨fun k h => (by cases h), kA, h2, comp, h3⟩
  · rw [hty]; exact ⟨kA, comp, h2, h3, h4, h1⟩
  · show (Array.replicate x.toNatClampNeg Value.null)[j]? = _
    simp [hj]
    rfl
theorem ax_dv (g : Nat → Nat) (ty : FieldType) : ax_v g (defaultValue ty) = defaultValue ty := by cases ty <;> rfl
/-- an object is made -/
theorem ax_new (hX : ax_ok X M d) {idx ci N : Nat} {C : String} {T : u_T} {ty : Nat → FieldType} {fs : Nat → Value} (hcl : ax_cls ci C T N ty) (hl : Cond.classLink M.1.cls idx C ∈ ax_ws) (hi : Cond.instantiable C N ∈ ax_ws) (hini : Cond.initialized C ∈ ax_ws) (hfs : ∀ j, j < N → fs j = defaultValue (ty j)) (hk : k + 1 ≤ M.2.2.2.2.1) (hn2 : n + N ≤ M.2.2.2.2.2) (hd : decode M.2.1 pc = .ok (.new idx, 3)) (kk : ax_j X (pc + 3) L (.ref h.1 :: st) (h.1 + 1, va_up h.2 h.1 (ax_ob ci fs)) (k + 1) (n + N)) : ax_j X pc L st h k n := by
  obtain ⟨p, l, e, R, s, m, args, below, meth, c, Z, D, g⟩ := X
  refine fun H locs ls hR hS hL => ?_
  obtain ⟨hxx, hb, hml, hrt, hown, hts, hlk, hnm, hT, hG, hsz, hRm⟩ := hX
  obtain ⟨hc, hin, hty, hnm2⟩ := hcl
  have hKn := hT.1.1 ci _ hc
  refine W.newcK hxx hb hown (hts _ hl) (hts _ hi) (hts _ hini) rfl hd (Nat.le_trans hk hRm.2.1) (Nat.le_trans hn2 hRm.2.2.1) hKn.2.1 hR.1 fun H1 kC hkC e1 z1 o1 => kk H1 locs ls (hR.push hG (by rw [z1, hR.1]) (fun q hq => o1 q (by rw [← hR.1]; exact hq)) ?_) ⟨Nat.le_trans hS.1 (by rw [z1, hR.1]; omega), fun q h1 h2 => (o1 q (by rw [← hR.1]; exact Nat.lt_of_lt_of_le h1 hS.1)).trans (hS.2.1 q h1 h2), hS.2.2⟩ hL
  exact ⟨_, hc, (u_born ty hts hin hKn hkC e1 hty).to (fun j hj => by rw [hfs j hj, ax_dv])⟩
/-- the static array of words -/
theorem ax_getst (hX : ax_ok X M d) {idx : Nat} {host : String} (hl : Cond.fieldLinkNest M.1.cls idx "ExamTour" "KEPT_WORDS" "[J" host ∈ ax_nest) (hd : decode M.2.1 pc = .ok (.getstatic idx, 3)) (kk : ax_j X (pc + 3) L (.ref 1 :: st) h k n) : ax_j X pc L st h k n := by
  obtain ⟨p, l, e, R, s, m, args, below, meth, c, Z, D, g⟩ := X
  refine fun H locs ls hR hS hL => ?_
  obtain ⟨hxx, hb, hml, hrt, hown, hts, hlk, hnm, hT, hG, hsz, hRm⟩ := hX
  exact va_getsN hxx hb hT.2.2 hS hown (va_Nw.use rfl (hT.2.1 _ hl)) (fun _ q => q) hd (kk H locs ls hR hS hL)
/-- what an answer may be: the handlers of the four returns -/
def ax_Ret (X : ax_X) (M : ax_M) (Q : Option Value → ax_H → Prop) : Prop :=
  (∀ (pc : Nat) (L : List (Option Value)) (r : Int32) (h : ax_H) (k n : Nat), k ≤ M.2.2.2.2.1 → n ≤ M.2.2.2.2.2 → decode M.2.1 pc = .ok (.ireturn, 1) → (∃ ty, M.2.2.2.1 = some ty ∧ narrow ty (.int r) = .int r) → Q (some (.int r)) h → ax_j X pc L [.int r] h k n) ∧
  (∀ (pc : Nat) (L : List (Option Value)) (r : Int64) (h : ax_H) (k n : Nat), k ≤ M.2.2.2.2.1 → n ≤ M.2.2.2.2.2 → decode M.2.1 pc = .ok (.lreturn, 1) → M.2.2.2.1 = some .long → Q (some (.long r)) h → ax_j X pc L [.long r] h k n) ∧
  (∀ (pc : Nat) (L : List (Option Value)) (r : Value) (h : ax_H) (k n : Nat), k ≤ M.2.2.2.2.1 → n ≤ M.2.2.2.2.2 → decode M.2.1 pc = .ok (.areturn, 1) → (∃ C, M.2.2.2.1 = some (.object C)) → ax_isr r → Q (some r) h → ax_j X pc L [r] h k n) ∧
  (∀ (pc : Nat) (L : List (Option Value)) (h : ax_H) (k n : Nat), k ≤ M.2.2.2.2.1 → n ≤ M.2.2.2.2.2 → decode M.2.1 pc = .ok (.return_, 1) → M.2.2.2.1 = none → Q none h → ax_j X pc L [] h k n)
theorem ax_enter {A : List Value} (hpl : plainName M.1.cls = true) (hent : (ax_ent0 A).length ≤ M.2.2.1) (body : ∀ X, ax_ok X M d → ax_Ret X M Q → ax_j X 0 (ax_ent A M.2.2.1) [] h 0 0) : ax_K d M A h Q := by
  intro l D g hG
  refine Met.ofW (cc := M.2.1) (maxL := M.2.2.1) (ret := M.2.2.2.1) hpl rfl ?_
  intro p e s m args below meth c s₁ B hml hv
  obtain ⟨rfl, hR, hT⟩ := hv
  have hx := B.exec
  have hb := B.bytes
  have hr := B.returns
  have hts := atoms_spec (ws := .code M.1 M.2.1 M.2.2.1 M.2.2.2.1 :: ax_ws) B.pre
  have hown : s.vm.findClass M.1.cls = some m.cls := findClass_of_methodNamed B.named
  have hlocks := B.notSynchronized
  have hnm := (name_of_methodNamed B.named B.method).1
  have hsz : g 2 ≤ s.heap.size := by rw [hR.1]; exact hG.ge hR.2.1
  have hS : va_S (fun q => g 2 ≤ q) s.heap s.heap [] := va_S.rf
  rw [lg_entry_eq]
  have hl := ax_ent_L g A hent
  refine body (p, l, e, ax_rm d M, s, m, (A.map (ax_v g)).toArray, below, meth, c, MQ below (ax_Qc D g Q) (A.map (ax_v g)).toArray s M.2.2.2.2.1 M.2.2.2.2.2 (fun q => g 2 ≤ q), D, g) ⟨hx, hb, hml, hr, hown, fun w hw => hts w (List.mem_cons_of_mem _ hw), hlocks, hnm, hT, hG, hsz, ⟨Nat.le_refl _, Nat.le_refl _, Nat.le_refl _, Nat.le_refl _⟩⟩ ⟨?_, ?_, ?_, ?_⟩ s.heap [] _ hR hS (by rw [hml]; exact hl)
  · intro pc L r h2 k n hk hn hd hty hq H locs ls hR2 hS2 hL2
    obtain ⟨ty, hty, hnar⟩ := hty
    refine W.widen hk hn ?_
    exact W.zret hx hb (hr.trans hty) hnar (fun t ht hW => ⟨⟨some (.int r), h2, rfl, hq, by rw [ht]; exact hR2.moved hW.alike⟩, hS2.F ht⟩) hS2.2.2 hd
  · intro pc L r h2 k n hk hn hd hty hq H locs ls hR2 hS2 hL2
    refine W.widen hk hn ?_
    exact W.lret hx hb (hr.trans hty) (fun t ht hW => ⟨⟨some (.long r), h2, rfl, hq, by rw [ht]; exact hR2.moved hW.alike⟩, hS2.F ht⟩) hS2.2.2 hd
  · intro pc L r h2 k n hk hn hd hty hv hq H locs ls hR2 hS2 hL2
    obtain ⟨C, hty⟩ := hty
    refine W.widen hk hn ?_
    exact W.aret hx hb (hr.trans hty) (Or.inl ⟨C, rfl⟩) (by rcases hv with rfl | ⟨a, rfl⟩ <;> first | exact Or.inl rfl | exact Or.inr ⟨_, rfl⟩) (fun t ht hW => ⟨⟨some r, h2, rfl, hq, by rw [ht]; exact hR2.moved hW.alike⟩, hS2.F ht⟩) hS2.2.2 hd
  · intro pc L h2 k n hk hn hd hty hq H locs ls hR2 hS2 hL2
    refine W.widen hk hn ?_
    exact W.vret hx hb (hr.trans hty) (fun t ht hW => ⟨⟨none, h2, rfl, hq, by rw [ht]; exact hR2.moved hW.alike⟩, hS2.F ht⟩) hS2.2.2 hd
end AXM
end
section
/-! words, methods, layout: printed by wip/whole/words.py -/
theorem ax_mem1 {w : Cond} (i : Nat) (h : tables_1[i]? = some w) (hg : goodWord w = true) : w ∈ ax_ws := List.mem_filter.mpr ⟨List.mem_append_right _ (List.mem_of_getElem? h), hg⟩
theorem ax_memN {w : Cond} (i : Nat) (h : tables_1[i]? = some w) (hg : goodWord w = false) : w ∈ ax_nest := List.mem_filter.mpr ⟨List.mem_append_right _ (List.mem_of_getElem? h), by rw [hg]; rfl⟩
theorem ax_memS {y : MethodName} {n : Nat} (i : Nat) (h : lw_privs[i]? = some (y, n)) (hg : goodWord (.selects y.cls y y) = true) : Cond.selects y.cls y y ∈ ax_ws := List.mem_filter.mpr ⟨List.mem_append_left _ (List.mem_map.mpr ⟨(y, n), List.mem_of_getElem? h, rfl⟩), hg⟩
theorem ax_memL {ws : List Cond} (ps : List Nat) (hp : ws = ps.filterMap (fun i => tables_1[i]?)) (hg : ws.all goodWord = true) : ∀ w ∈ ws, w ∈ ax_ws := by
  intro w hw
  have h1 := List.all_eq_true.mp hg w hw
  rw [hp] at hw
  obtain ⟨i, -, hi⟩ := List.mem_filterMap.mp hw
  exact ax_mem1 i hi h1
set_option maxRecDepth 20000 in
theorem cl0 : ax_cls 0 RX0 TX0 4 tyX0 := ⟨rfl, ax_memL [365, 367, 369, 371] (by decide +kernel) (by decide +kernel), tyX0_ok, nmX0⟩
abbrev mX10_init : ax_M := (yX10_init, cX10_init, 1, none, 102, 6009)
abbrev mX6_init : ax_M := (yX6_init, cX6_init, 1, none, 61, 3105)
abbrev mX9_init : ax_M := (yX9_init, cX9_init, 1, none, 1, 1400)
abbrev mX8_init : ax_M := (yX8_init, cX8_init, 2, none, 58, 1694)
abbrev mX3_init : ax_M := (yX3_init, cX3_init, 1, none, 6, 104)
abbrev mX4_init : ax_M := (yX4_init, cX4_init, 1, none, 2, 156)
abbrev mX2_init : ax_M := (yX2_init, cX2_init, 1, none, 9, 480)
abbrev mX1_init : ax_M := (yX1_init, cX1_init, 1, none, 5, 92)
abbrev mX7_init : ax_M := (yX7_init, cX7_init, 2, none, 7, 543)
abbrev mX5_init : ax_M := (yX5_init, cX5_init, 1, none, 7, 1400)
abbrev mX0_init : ax_M := (yX0_init, cX0_init, 1, none, 3, 180)
abbrev mX10_feed : ax_M := (yX10_feed, cX10_feed, 7, some (.int), 0, 0)
abbrev mX9_append : ax_M := (yX9_append, cX9_append, 3, none, 0, 0)
abbrev mX10_end : ax_M := (yX10_end, cX10_end, 2, some (.int), 0, 0)
abbrev mX10_syllabus : ax_M := (yX10_syllabus, cX10_syllabus, 2, some (.int), 59, 1698)
abbrev mX10_isTerm : ax_M := (yX10_isTerm, cX10_isTerm, 1, some (.boolean), 0, 0)
abbrev mX6_read : ax_M := (yX6_read, cX6_read, 3, none, 0, 0)
abbrev mX8_clear : ax_M := (yX8_clear, cX8_clear, 2, none, 0, 0)
abbrev mX3_clear : ax_M := (yX3_clear, cX3_clear, 1, none, 0, 0)
abbrev mX9_rewind : ax_M := (yX9_rewind, cX9_rewind, 1, none, 0, 0)
abbrev mX9_next : ax_M := (yX9_next, cX9_next, 2, none, 0, 0)
abbrev mX9_byteAt : ax_M := (yX9_byteAt, cX9_byteAt, 2, some (.int), 0, 0)
abbrev mX9_isBlank : ax_M := (yX9_isBlank, cX9_isBlank, 1, some (.boolean), 0, 0)
abbrev mX9_isLetter : ax_M := (yX9_isLetter, cX9_isLetter, 1, some (.boolean), 0, 0)
abbrev mX9_readWord : ax_M := (yX9_readWord, cX9_readWord, 1, none, 0, 0)
abbrev mX9_isLetterOrDigit : ax_M := (yX9_isLetterOrDigit, cX9_isLetterOrDigit, 1, some (.boolean), 0, 0)
abbrev mX9_kindOf : ax_M := (yX9_kindOf, cX9_kindOf, 3, some (.int), 0, 0)
abbrev mX9_isDigit : ax_M := (yX9_isDigit, cX9_isDigit, 1, some (.boolean), 0, 0)
abbrev mX9_readNumber : ax_M := (yX9_readNumber, cX9_readNumber, 1, none, 0, 0)
abbrev mX9_isSign : ax_M := (yX9_isSign, cX9_isSign, 1, some (.boolean), 0, 0)
abbrev mX6_openGrade : ax_M := (yX6_openGrade, cX6_openGrade, 3, some (.object "ExamTour$Grade"), 0, 0)
abbrev mX6_take : ax_M := (yX6_take, cX6_take, 2, none, 0, 0)
abbrev mX6_refuse : ax_M := (yX6_refuse, cX6_refuse, 1, none, 0, 0)
abbrev mX6_fail : ax_M := (yX6_fail, cX6_fail, 3, none, 0, 0)
abbrev mX6_takeNumber : ax_M := (yX6_takeNumber, cX6_takeNumber, 4, some (.int), 0, 0)
abbrev mX8_find : ax_M := (yX8_find, cX8_find, 3, some (.object "ExamTour$Grade"), 0, 0)
abbrev mX8_open : ax_M := (yX8_open, cX8_open, 2, some (.object "ExamTour$Grade"), 0, 0)
abbrev mX6_readItem : ax_M := (yX6_readItem, cX6_readItem, 3, none, 0, 0)
abbrev mX6_cannotStartItem : ax_M := (yX6_cannotStartItem, cX6_cannotStartItem, 2, some (.boolean), 0, 0)
abbrev mX6_readList : ax_M := (yX6_readList, cX6_readList, 5, none, 0, 0)
abbrev mX6_takeNewName : ax_M := (yX6_takeNewName, cX6_takeNewName, 4, some (.long), 0, 0)
abbrev mX3_findList : ax_M := (yX3_findList, cX3_findList, 3, some (.int), 0, 0)
abbrev mX3_find : ax_M := (yX3_find, cX3_find, 5, some (.int), 0, 0)
abbrev mX3_findPart : ax_M := (yX3_findPart, cX3_findPart, 3, some (.int), 0, 0)
abbrev mX3_addList : ax_M := (yX3_addList, cX3_addList, 3, none, 0, 0)
abbrev mX6_takeListed : ax_M := (yX6_takeListed, cX6_takeListed, 2, none, 0, 0)
abbrev mX3_isLastListFull : ax_M := (yX3_isLastListFull, cX3_isLastListFull, 1, some (.boolean), 0, 0)
abbrev mX3_isListed : ax_M := (yX3_isListed, cX3_isListed, 5, some (.boolean), 0, 0)
abbrev mX3_addListed : ax_M := (yX3_addListed, cX3_addListed, 4, none, 0, 0)
abbrev mX6_readPart : ax_M := (yX6_readPart, cX6_readPart, 5, none, 0, 0)
abbrev mX3_addPart : ax_M := (yX3_addPart, cX3_addPart, 4, none, 0, 0)
abbrev mX3_addRule : ax_M := (yX3_addRule, cX3_addRule, 3, none, 0, 0)
abbrev mX6_readE : ax_M := (yX6_readE, cX6_readE, 4, none, 0, 0)
abbrev mX6_readBoth : ax_M := (yX6_readBoth, cX6_readBoth, 4, none, 0, 0)
abbrev mX6_readOne : ax_M := (yX6_readOne, cX6_readOne, 3, none, 0, 0)
abbrev mX8_addCell : ax_M := (yX8_addCell, cX8_addCell, 3, none, 0, 0)
abbrev mX6_readCompared : ax_M := (yX6_readCompared, cX6_readCompared, 4, none, 0, 0)
abbrev mX6_readSum : ax_M := (yX6_readSum, cX6_readSum, 5, none, 0, 0)
abbrev mX6_readLeaf : ax_M := (yX6_readLeaf, cX6_readLeaf, 3, none, 0, 0)
abbrev mX6_isLeaf : ax_M := (yX6_isLeaf, cX6_isLeaf, 1, some (.boolean), 0, 0)
abbrev mX6_addMeaning : ax_M := (yX6_addMeaning, cX6_addMeaning, 3, none, 0, 0)
abbrev mX6_addNamed : ax_M := (yX6_addNamed, cX6_addNamed, 3, none, 0, 0)
abbrev mX6_exchange : ax_M := (yX6_exchange, cX6_exchange, 3, some (.object "ExamTour$Syllabus"), 59, 1698)
abbrev mX10_gradesOf : ax_M := (yX10_gradesOf, cX10_gradesOf, 3, some (.int), 0, 0)
abbrev mX10_fault : ax_M := (yX10_fault, cX10_fault, 2, some (.int), 0, 0)
abbrev mX10_grade : ax_M := (yX10_grade, cX10_grade, 5, some (.int), 0, 0)
abbrev mX10_findGrade : ax_M := (yX10_findGrade, cX10_findGrade, 4, some (.object "ExamTour$Grade"), 0, 0)
abbrev mX3_minutesOrUsual : ax_M := (yX3_minutesOrUsual, cX3_minutesOrUsual, 1, some (.int), 0, 0)
abbrev mX10_entry : ax_M := (yX10_entry, cX10_entry, 8, some (.int), 0, 0)
abbrev mX10_isWithin : ax_M := (yX10_isWithin, cX10_isWithin, 3, some (.boolean), 0, 0)
abbrev mX1_hasExaminer : ax_M := (yX1_hasExaminer, cX1_hasExaminer, 2, some (.boolean), 0, 0)
abbrev mX2_add : ax_M := (yX2_add, cX2_add, 7, some (.int), 0, 0)
abbrev mX10_piece : ax_M := (yX10_piece, cX10_piece, 4, some (.int), 0, 0)
abbrev mX2_has : ax_M := (yX2_has, cX2_has, 2, some (.boolean), 0, 0)
abbrev mX9_isWord : ax_M := (yX9_isWord, cX9_isWord, 5, some (.boolean), 0, 0)
abbrev mX2_addPiece : ax_M := (yX2_addPiece, cX2_addPiece, 6, some (.int), 0, 0)
abbrev mX10_judge : ax_M := (yX10_judge, cX10_judge, 2, some (.int), 0, 0)
abbrev mX10_firstUnmet : ax_M := (yX10_firstUnmet, cX10_firstUnmet, 5, some (.int), 0, 0)
abbrev mX10_gradeOf : ax_M := (yX10_gradeOf, cX10_gradeOf, 2, some (.object "ExamTour$Grade"), 0, 0)
abbrev mX4_work : ax_M := (yX4_work, cX4_work, 10, some (.int), 0, 0)
abbrev mJ9_max_7cf53 : ax_M := (yJ9_max_7cf53, cJ9_max_7cf53, 2, some (.int), 0, 0)
abbrev mX4_markLeaf : ax_M := (yX4_markLeaf, cX4_markLeaf, 4, some (.int), 0, 0)
abbrev mX4_total : ax_M := (yX4_total, cX4_total, 4, some (.int), 0, 0)
abbrev mX4_least : ax_M := (yX4_least, cX4_least, 4, some (.int), 0, 0)
abbrev mJ9_min_7cf53 : ax_M := (yJ9_min_7cf53, cJ9_min_7cf53, 2, some (.int), 0, 0)
abbrev mX4_push : ax_M := (yX4_push, cX4_push, 2, none, 0, 0)
abbrev mX4_pieceLeaf : ax_M := (yX4_pieceLeaf, cX4_pieceLeaf, 6, some (.int), 0, 0)
abbrev mX2_countListed : ax_M := (yX2_countListed, cX2_countListed, 6, some (.int), 0, 0)
abbrev mX2_countOwn : ax_M := (yX2_countOwn, cX2_countOwn, 5, some (.int), 0, 0)
abbrev mX3_isListedAnywhere : ax_M := (yX3_isListedAnywhere, cX3_isListedAnywhere, 5, some (.boolean), 0, 0)
abbrev mX4_pop : ax_M := (yX4_pop, cX4_pop, 1, some (.int), 0, 0)
abbrev mX4_join : ax_M := (yX4_join, cX4_join, 3, some (.int), 0, 0)
abbrev mX10_centre : ax_M := (yX10_centre, cX10_centre, 1, some (.int), 0, 0)
abbrev mX1_addCentre : ax_M := (yX1_addCentre, cX1_addCentre, 1, some (.int), 0, 0)
abbrev mX10_way : ax_M := (yX10_way, cX10_way, 5, some (.boolean), 0, 0)
abbrev mX1_hasCentre : ax_M := (yX1_hasCentre, cX1_hasCentre, 2, some (.boolean), 0, 0)
abbrev mX1_setWay : ax_M := (yX1_setWay, cX1_setWay, 4, none, 0, 0)
abbrev mX10_examiner : ax_M := (yX10_examiner, cX10_examiner, 4, some (.int), 0, 0)
abbrev mX1_addExaminer : ax_M := (yX1_addExaminer, cX1_addExaminer, 3, some (.int), 0, 0)
abbrev mX10_session : ax_M := (yX10_session, cX10_session, 4, some (.int), 0, 0)
abbrev mX1_addSession : ax_M := (yX1_addSession, cX1_addSession, 3, some (.int), 0, 0)
abbrev mX10_put : ax_M := (yX10_put, cX10_put, 3, some (.boolean), 0, 0)
abbrev mX1_hasSession : ax_M := (yX1_hasSession, cX1_hasSession, 2, some (.boolean), 0, 0)
abbrev mX10_minutesWith : ax_M := (yX10_minutesWith, cX10_minutesWith, 5, some (.int), 0, 0)
abbrev mX10_minutesOf : ax_M := (yX10_minutesOf, cX10_minutesOf, 3, some (.int), 0, 0)
abbrev mX10_of : ax_M := (yX10_of, cX10_of, 3, some (.int), 0, 0)
abbrev mX2_countIn : ax_M := (yX2_countIn, cX2_countIn, 4, some (.int), 0, 0)
abbrev mX10_may : ax_M := (yX10_may, cX10_may, 3, some (.int), 0, 0)
abbrev mX10_mayTake : ax_M := (yX10_mayTake, cX10_mayTake, 4, some (.boolean), 0, 0)
abbrev mX10_mayHear : ax_M := (yX10_mayHear, cX10_mayHear, 3, some (.boolean), 0, 0)
abbrev mX1_plays : ax_M := (yX1_plays, cX1_plays, 3, some (.boolean), 0, 0)
abbrev mX10_heardElsewhere : ax_M := (yX10_heardElsewhere, cX10_heardElsewhere, 5, some (.boolean), 0, 0)
abbrev mX5_stands : ax_M := (yX5_stands, cX5_stands, 2, some (.boolean), 0, 0)
abbrev mX10_tour : ax_M := (yX10_tour, cX10_tour, 3, some (.int), 0, 0)
abbrev mX7_allow : ax_M := (yX7_allow, cX7_allow, 4, none, 0, 0)
abbrev mX7_plan : ax_M := (yX7_plan, cX7_plan, 4, some (.int), 0, 0)
abbrev mX7_orderByDay : ax_M := (yX7_orderByDay, cX7_orderByDay, 4, none, 0, 0)
abbrev mX7_startDay : ax_M := (yX7_startDay, cX7_startDay, 4, none, 0, 0)
abbrev mX7_sendAllHome : ax_M := (yX7_sendAllHome, cX7_sendAllHome, 2, none, 0, 0)
abbrev mJ9_min_f86c9 : ax_M := (yJ9_min_f86c9, cJ9_min_f86c9, 4, some (.long), 0, 0)
abbrev mX7_giveDay : ax_M := (yX7_giveDay, cX7_giveDay, 13, none, 0, 0)
abbrev mX7_addState : ax_M := (yX7_addState, cX7_addState, 10, none, 0, 0)
abbrev mX7_savedBetween : ax_M := (yX7_savedBetween, cX7_savedBetween, 9, some (.long), 0, 0)
abbrev mX7_placeOf : ax_M := (yX7_placeOf, cX7_placeOf, 2, some (.int), 0, 0)
abbrev mX1_minutesBetween : ax_M := (yX1_minutesBetween, cX1_minutesBetween, 3, some (.int), 0, 0)
abbrev mX7_costOf : ax_M := (yX7_costOf, cX7_costOf, 6, some (.long), 0, 0)
abbrev mX7_choose : ax_M := (yX7_choose, cX7_choose, 5, none, 0, 0)
abbrev mX10_toured : ax_M := (yX10_toured, cX10_toured, 2, some (.int), 0, 0)
abbrev mX10_stuck : ax_M := (yX10_stuck, cX10_stuck, 2, some (.int), 0, 0)
abbrev mX10_canBeTaken : ax_M := (yX10_canBeTaken, cX10_canBeTaken, 3, some (.boolean), 0, 0)
abbrev mX10_later : ax_M := (yX10_later, cX10_later, 2, some (.int), 0, 0)
abbrev mX10_mark : ax_M := (yX10_mark, cX10_mark, 6, some (.int), 0, 0)
abbrev mX10_canBeMarked : ax_M := (yX10_canBeMarked, cX10_canBeMarked, 5, some (.boolean), 0, 0)
abbrev mX5_tell : ax_M := (yX5_tell, cX5_tell, 5, some (.int), 0, 0)
abbrev mX10_appeal : ax_M := (yX10_appeal, cX10_appeal, 5, some (.int), 0, 0)
abbrev mX5_knownPoints : ax_M := (yX5_knownPoints, cX5_knownPoints, 5, some (.int), 0, 0)
abbrev mX5_lastOf : ax_M := (yX5_lastOf, cX5_lastOf, 6, some (.int), 0, 0)
abbrev mX5_isKnown : ax_M := (yX5_isKnown, cX5_isKnown, 3, some (.boolean), 0, 0)
abbrev mX5_mainOf : ax_M := (yX5_mainOf, cX5_mainOf, 4, some (.int), 0, 0)
abbrev mX10_untell : ax_M := (yX10_untell, cX10_untell, 2, some (.boolean), 0, 0)
abbrev mX5_takeBack : ax_M := (yX5_takeBack, cX5_takeBack, 2, some (.boolean), 0, 0)
abbrev mX10_known : ax_M := (yX10_known, cX10_known, 4, some (.int), 0, 0)
abbrev mX10_main : ax_M := (yX10_main, cX10_main, 3, some (.int), 0, 0)
abbrev mX10_result : ax_M := (yX10_result, cX10_result, 3, some (.int), 0, 0)
abbrev mX10_resultOf : ax_M := (yX10_resultOf, cX10_resultOf, 7, some (.int), 0, 0)
abbrev mX10_hardness : ax_M := (yX10_hardness, cX10_hardness, 2, some (.int), 0, 0)
abbrev mX5_hardnessOf : ax_M := (yX5_hardnessOf, cX5_hardnessOf, 8, some (.int), 0, 0)
abbrev mX5_insertGap : ax_M := (yX5_insertGap, cX5_insertGap, 4, some (.int), 0, 0)
abbrev mX10_certify : ax_M := (yX10_certify, cX10_certify, 3, some (.int), 0, 0)
abbrev mX0_anyUpTo : ax_M := (yX0_anyUpTo, cX0_anyUpTo, 4, some (.boolean), 0, 0)
abbrev mX0_give : ax_M := (yX0_give, cX0_give, 4, some (.int), 0, 0)
abbrev mX10_certificate : ax_M := (yX10_certificate, cX10_certificate, 3, some (.int), 0, 0)
abbrev mX0_has : ax_M := (yX0_has, cX0_has, 2, some (.boolean), 0, 0)
abbrev mX10_holds : ax_M := (yX10_holds, cX10_holds, 5, some (.int), 0, 0)
abbrev mX10_about : ax_M := (yX10_about, cX10_about, 2, some (.int), 0, 0)
abbrev mX11_init : ax_M := (yX11_init, cX11_init, 2, none, 55, 31644)
abbrev mX11_syllabus : ax_M := (yX11_syllabus, cX11_syllabus, 3, some (.int), 0, 0)
abbrev mX11_next : ax_M := (yX11_next, cX11_next, 3, none, 0, 0)
abbrev mX11_sign : ax_M := (yX11_sign, cX11_sign, 2, some (.int), 0, 0)
abbrev mX11_isLetter : ax_M := (yX11_isLetter, cX11_isLetter, 1, some (.boolean), 0, 0)
abbrev mX11_isDigit : ax_M := (yX11_isDigit, cX11_isDigit, 1, some (.boolean), 0, 0)
abbrev mX11_isKept : ax_M := (yX11_isKept, cX11_isKept, 2, some (.boolean), 0, 0)
abbrev mX11_isMeant : ax_M := (yX11_isMeant, cX11_isMeant, 2, some (.boolean), 0, 0)
abbrev mX11_isGood : ax_M := (yX11_isGood, cX11_isGood, 1, some (.boolean), 0, 0)
abbrev mX11_readGrade : ax_M := (yX11_readGrade, cX11_readGrade, 3, none, 0, 0)
abbrev mX11_isWord : ax_M := (yX11_isWord, cX11_isWord, 3, some (.boolean), 0, 0)
abbrev mX11_wrong : ax_M := (yX11_wrong, cX11_wrong, 1, none, 0, 0)
abbrev mX11_fails : ax_M := (yX11_fails, cX11_fails, 3, none, 0, 0)
abbrev mX11_numberOf : ax_M := (yX11_numberOf, cX11_numberOf, 4, some (.int), 0, 0)
abbrev mX11_must : ax_M := (yX11_must, cX11_must, 2, none, 0, 0)
abbrev mX11_is : ax_M := (yX11_is, cX11_is, 2, some (.boolean), 0, 0)
abbrev mX11_readItem : ax_M := (yX11_readItem, cX11_readItem, 6, none, 0, 0)
abbrev mX11_readList : ax_M := (yX11_readList, cX11_readList, 4, none, 0, 0)
abbrev mX11_canName : ax_M := (yX11_canName, cX11_canName, 2, some (.boolean), 0, 0)
abbrev mX11_listOf : ax_M := (yX11_listOf, cX11_listOf, 5, some (.int), 0, 0)
abbrev mX11_partOf : ax_M := (yX11_partOf, cX11_partOf, 5, some (.int), 0, 0)
abbrev mX11_hasPiece : ax_M := (yX11_hasPiece, cX11_hasPiece, 5, some (.boolean), 0, 0)
abbrev mX11_readPart : ax_M := (yX11_readPart, cX11_readPart, 3, none, 0, 0)
abbrev mX11_e : ax_M := (yX11_e, cX11_e, 4, none, 0, 0)
abbrev mX11_pile : ax_M := (yX11_pile, cX11_pile, 3, none, 0, 0)
abbrev mX11_behind : ax_M := (yX11_behind, cX11_behind, 3, some (.int), 0, 0)
abbrev mX11_rankHere : ax_M := (yX11_rankHere, cX11_rankHere, 1, some (.int), 0, 0)
abbrev mX11_step : ax_M := (yX11_step, cX11_step, 3, none, 0, 0)
abbrev mX11_value : ax_M := (yX11_value, cX11_value, 5, some (.int), 0, 0)
abbrev mX11_meant : ax_M := (yX11_meant, cX11_meant, 4, none, 0, 0)
abbrev mX11_fault : ax_M := (yX11_fault, cX11_fault, 2, some (.int), 0, 0)
abbrev mX11_grade : ax_M := (yX11_grade, cX11_grade, 5, some (.int), 0, 0)
abbrev mX11_spot : ax_M := (yX11_spot, cX11_spot, 4, some (.int), 0, 0)
abbrev mX11_minutesOf : ax_M := (yX11_minutesOf, cX11_minutesOf, 2, some (.int), 0, 0)
abbrev mX11_entry : ax_M := (yX11_entry, cX11_entry, 7, some (.int), 0, 0)
abbrev mX11_piece : ax_M := (yX11_piece, cX11_piece, 5, some (.int), 0, 0)
abbrev mX11_isEntry : ax_M := (yX11_isEntry, cX11_isEntry, 2, some (.boolean), 0, 0)
abbrev mX11_isName : ax_M := (yX11_isName, cX11_isName, 5, some (.boolean), 0, 0)
abbrev mX11_judge : ax_M := (yX11_judge, cX11_judge, 4, some (.int), 0, 0)
abbrev mX11_spotOf : ax_M := (yX11_spotOf, cX11_spotOf, 2, some (.int), 0, 0)
abbrev mX11_work : ax_M := (yX11_work, cX11_work, 9, some (.int), 0, 0)
abbrev mX11_leaf : ax_M := (yX11_leaf, cX11_leaf, 5, some (.int), 0, 0)
abbrev mX11_inList : ax_M := (yX11_inList, cX11_inList, 5, some (.int), 0, 0)
abbrev mX11_inNone : ax_M := (yX11_inNone, cX11_inNone, 7, some (.int), 0, 0)
abbrev mX11_total : ax_M := (yX11_total, cX11_total, 4, some (.int), 0, 0)
abbrev mX11_leastMark : ax_M := (yX11_leastMark, cX11_leastMark, 4, some (.int), 0, 0)
abbrev mX11_two : ax_M := (yX11_two, cX11_two, 3, some (.int), 0, 0)
abbrev mX11_centre : ax_M := (yX11_centre, cX11_centre, 1, some (.int), 0, 0)
abbrev mX11_way : ax_M := (yX11_way, cX11_way, 4, some (.boolean), 0, 0)
abbrev mX11_isCentre : ax_M := (yX11_isCentre, cX11_isCentre, 2, some (.boolean), 0, 0)
abbrev mX11_examiner : ax_M := (yX11_examiner, cX11_examiner, 3, some (.int), 0, 0)
abbrev mX11_session : ax_M := (yX11_session, cX11_session, 3, some (.int), 0, 0)
abbrev mX11_put : ax_M := (yX11_put, cX11_put, 3, some (.boolean), 0, 0)
abbrev mX11_isSession : ax_M := (yX11_isSession, cX11_isSession, 2, some (.boolean), 0, 0)
abbrev mX11_minutesIn : ax_M := (yX11_minutesIn, cX11_minutesIn, 5, some (.int), 0, 0)
abbrev mX11_of : ax_M := (yX11_of, cX11_of, 5, some (.int), 0, 0)
abbrev mX11_may : ax_M := (yX11_may, cX11_may, 3, some (.int), 0, 0)
abbrev mX11_isExaminer : ax_M := (yX11_isExaminer, cX11_isExaminer, 2, some (.boolean), 0, 0)
abbrev mX11_mayTake : ax_M := (yX11_mayTake, cX11_mayTake, 4, some (.boolean), 0, 0)
abbrev mX11_hasHeard : ax_M := (yX11_hasHeard, cX11_hasHeard, 4, some (.boolean), 0, 0)
abbrev mX11_stuck : ax_M := (yX11_stuck, cX11_stuck, 4, some (.int), 0, 0)
abbrev mX11_tour : ax_M := (yX11_tour, cX11_tour, 3, some (.int), 0, 0)
abbrev mX11_travel : ax_M := (yX11_travel, cX11_travel, 7, some (.int), 0, 0)
abbrev mX11_nextOf : ax_M := (yX11_nextOf, cX11_nextOf, 5, some (.int), 0, 0)
abbrev mX11_solve : ax_M := (yX11_solve, cX11_solve, 7, some (.int), 0, 0)
abbrev mX11_agrees : ax_M := (yX11_agrees, cX11_agrees, 4, some (.boolean), 0, 0)
abbrev mX11_toured : ax_M := (yX11_toured, cX11_toured, 2, some (.int), 0, 0)
abbrev mX11_later : ax_M := (yX11_later, cX11_later, 2, some (.int), 0, 0)
abbrev mX11_mark : ax_M := (yX11_mark, cX11_mark, 5, some (.int), 0, 0)
abbrev mX11_tell : ax_M := (yX11_tell, cX11_tell, 6, some (.int), 0, 0)
abbrev mX11_appeal : ax_M := (yX11_appeal, cX11_appeal, 4, some (.int), 0, 0)
abbrev mX11_known : ax_M := (yX11_known, cX11_known, 6, some (.int), 0, 0)
abbrev mX11_lastOf : ax_M := (yX11_lastOf, cX11_lastOf, 7, some (.int), 0, 0)
abbrev mX11_isKnown : ax_M := (yX11_isKnown, cX11_isKnown, 3, some (.boolean), 0, 0)
abbrev mX11_main : ax_M := (yX11_main, cX11_main, 4, some (.int), 0, 0)
abbrev mX11_untell : ax_M := (yX11_untell, cX11_untell, 2, some (.boolean), 0, 0)
abbrev mX11_result : ax_M := (yX11_result, cX11_result, 5, some (.int), 0, 0)
abbrev mX11_hardness : ax_M := (yX11_hardness, cX11_hardness, 8, some (.int), 0, 0)
abbrev mX11_certify : ax_M := (yX11_certify, cX11_certify, 4, some (.int), 0, 0)
abbrev mX11_doesHold : ax_M := (yX11_doesHold, cX11_doesHold, 3, some (.boolean), 0, 0)
abbrev mX11_certificate : ax_M := (yX11_certificate, cX11_certificate, 3, some (.int), 0, 0)
abbrev mX11_holds : ax_M := (yX11_holds, cX11_holds, 3, some (.int), 0, 0)
abbrev mX11_about : ax_M := (yX11_about, cX11_about, 2, some (.int), 0, 0)
abbrev mX11_feed : ax_M := (yX11_feed, cX11_feed, 8, some (.int), 0, 0)
abbrev mX11_end : ax_M := (yX11_end, cX11_end, 2, some (.int), 0, 0)
theorem lRX10_3 : Cond.methodLink RX10 3 Lib.objectInit ∈ ax_ws := ax_mem1 19 (by decide +kernel) rfl
theorem lRX10_88 : Cond.methodLink RX10 88 mX6_exchange.1 ∈ ax_ws := ax_mem1 597 (by decide +kernel) rfl
theorem lRX10_126 : Cond.methodLink RX10 126 mX1_hasExaminer.1 ∈ ax_ws := ax_mem1 629 (by decide +kernel) rfl
theorem lRX10_144 : Cond.methodLink RX10 144 mX10_firstUnmet.1 ∈ ax_ws := ax_mem1 656 (by decide +kernel) rfl
theorem lRX10_161 : Cond.methodLink RX10 161 mX1_addSession.1 ∈ ax_ws := ax_mem1 747 (by decide +kernel) rfl
theorem lRX10_191 : Cond.methodLink RX10 191 mX7_allow.1 ∈ ax_ws := ax_mem1 803 (by decide +kernel) rfl
theorem lRX10_216 : Cond.methodLink RX10 216 mX5_knownPoints.1 ∈ ax_ws := ax_mem1 887 (by decide +kernel) rfl
theorem lRX10_232 : Cond.methodLink RX10 232 mX0_anyUpTo.1 ∈ ax_ws := ax_mem1 945 (by decide +kernel) rfl
theorem lRX10_272 : Cond.methodLink RX10 272 mX4_work.1 ∈ ax_ws := ax_mem1 664 (by decide +kernel) rfl
theorem lRX10_307 : Cond.methodLink RX10 307 mX5_stands.1 ∈ ax_ws := ax_mem1 795 (by decide +kernel) rfl
theorem lRX2_50 : Cond.methodLink RX2 50 mX3_isListedAnywhere.1 ∈ ax_ws := ax_mem1 704 (by decide +kernel) rfl
theorem lRX4_37 : Cond.methodLink RX4 37 mX4_markLeaf.1 ∈ ax_ws := ax_mem1 672 (by decide +kernel) rfl
theorem lRX4_62 : Cond.methodLink RX4 62 mX4_total.1 ∈ ax_ws := ax_mem1 676 (by decide +kernel) rfl
theorem lRX5_3 : Cond.methodLink RX5 3 Lib.objectInit ∈ ax_ws := ax_mem1 318 (by decide +kernel) rfl
theorem lRX5_56 : Cond.methodLink RX5 56 mX5_insertGap.1 ∈ ax_ws := ax_mem1 937 (by decide +kernel) rfl
theorem lRX6_44 : Cond.methodLink RX6 44 mX6_openGrade.1 ∈ ax_ws := ax_mem1 470 (by decide +kernel) rfl
theorem lRX6_63 : Cond.methodLink RX6 63 mX6_takeNumber.1 ∈ ax_ws := ax_mem1 487 (by decide +kernel) rfl
theorem lRX6_82 : Cond.methodLink RX6 82 mX6_readList.1 ∈ ax_ws := ax_mem1 507 (by decide +kernel) rfl
theorem lRX6_125 : Cond.methodLink RX6 125 mX6_takeNewName.1 ∈ ax_ws := ax_mem1 511 (by decide +kernel) rfl
theorem lRX6_143 : Cond.methodLink RX6 143 mX6_readOne.1 ∈ ax_ws := ax_mem1 566 (by decide +kernel) rfl
theorem lRX6_159 : Cond.methodLink RX6 159 mX6_addMeaning.1 ∈ ax_ws := ax_mem1 589 (by decide +kernel) rfl
theorem lRX6_183 : Cond.methodLink RX6 183 mX3_isListed.1 ∈ ax_ws := ax_mem1 538 (by decide +kernel) rfl
theorem lRX7_55 : Cond.methodLink RX7 55 mX7_giveDay.1 ∈ ax_ws := ax_mem1 827 (by decide +kernel) rfl
theorem lRX7_78 : Cond.methodLink RX7 78 mX7_addState.1 ∈ ax_ws := ax_mem1 831 (by decide +kernel) rfl
theorem lRX7_106 : Cond.methodLink RX7 106 mX1_hasCentre.1 ∈ ax_ws := ax_mem1 841 (by decide +kernel) rfl
theorem lRX9_25 : Cond.methodLink RX9 25 mX9_byteAt.1 ∈ ax_ws := ax_mem1 438 (by decide +kernel) rfl
theorem lRX9_48 : Cond.methodLink RX9 48 mX9_readNumber.1 ∈ ax_ws := ax_mem1 463 (by decide +kernel) rfl
theorem lRL_12 : Cond.methodLink RL 12 mX11_init.1 ∈ ax_ws := ax_mem1 971 (by decide +kernel) rfl
theorem lRL_23 : Cond.methodLink RL 23 mX10_syllabus.1 ∈ ax_ws := ax_mem1 411 (by decide +kernel) rfl
theorem lRL_35 : Cond.methodLink RL 35 mX11_grade.1 ∈ ax_ws := ax_mem1 1338 (by decide +kernel) rfl
theorem lRL_48 : Cond.methodLink RL 48 mX10_judge.1 ∈ ax_ws := ax_mem1 652 (by decide +kernel) rfl
theorem lRL_61 : Cond.methodLink RL 61 mX11_way.1 ∈ ax_ws := ax_mem1 1405 (by decide +kernel) rfl
theorem lRL_71 : Cond.methodLink RL 71 mX10_put.1 ∈ ax_ws := ax_mem1 751 (by decide +kernel) rfl
theorem lRL_83 : Cond.methodLink RL 83 mX11_may.1 ∈ ax_ws := ax_mem1 1437 (by decide +kernel) rfl
theorem lRL_92 : Cond.methodLink RL 92 mX10_stuck.1 ∈ ax_ws := ax_mem1 858 (by decide +kernel) rfl
theorem lRL_104 : Cond.methodLink RL 104 mX11_mark.1 ∈ ax_ws := ax_mem1 1487 (by decide +kernel) rfl
theorem lRL_114 : Cond.methodLink RL 114 mX10_known.1 ∈ ax_ws := ax_mem1 912 (by decide +kernel) rfl
theorem lRL_125 : Cond.methodLink RL 125 mX11_result.1 ∈ ax_ws := ax_mem1 1521 (by decide +kernel) rfl
theorem lRL_134 : Cond.methodLink RL 134 mX10_certificate.1 ∈ ax_ws := ax_mem1 953 (by decide +kernel) rfl
theorem lRL_145 : Cond.methodLink RL 145 mX11_about.1 ∈ ax_ws := ax_mem1 1547 (by decide +kernel) rfl
end
