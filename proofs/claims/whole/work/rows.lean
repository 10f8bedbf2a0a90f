section
-- ===== PART A: goes FIRST, ahead of the names: the tables' words, and 'selects' of the private methods out of them =====
/-- a private method of a class that the tables say can be made, by its rows of tables_1 -/
def lw_okq (q : MethodName × Nat) : Prop := (q.1.cls ≠ "java/lang/invoke/MethodHandle" ∧ q.1.cls ≠ "java/lang/invoke/VarHandle") ∧ Cond.instantiable q.1.cls q.2 ∈ tables_1 ∧ Cond.privateMethod q.1 ∈ tables_1 ∧ Cond.instanceMethod q.1 ∈ tables_1
theorem lw_p0 : lw_okq (⟨"ExamTour$Tokens", "byteAt", "(I)I"⟩, 7) := ⟨⟨by decide +kernel, by decide +kernel⟩, List.mem_of_getElem? (i := 29) (by decide +kernel), List.mem_of_getElem? (i := 439) (by decide +kernel), List.mem_of_getElem? (i := 440) (by decide +kernel)⟩
theorem lw_p1 : lw_okq (⟨"ExamTour$Tokens", "readWord", "()V"⟩, 7) := ⟨⟨by decide +kernel, by decide +kernel⟩, List.mem_of_getElem? (i := 29) (by decide +kernel), List.mem_of_getElem? (i := 449) (by decide +kernel), List.mem_of_getElem? (i := 450) (by decide +kernel)⟩
theorem lw_p2 : lw_okq (⟨"ExamTour$Tokens", "readNumber", "()V"⟩, 7) := ⟨⟨by decide +kernel, by decide +kernel⟩, List.mem_of_getElem? (i := 29) (by decide +kernel), List.mem_of_getElem? (i := 464) (by decide +kernel), List.mem_of_getElem? (i := 465) (by decide +kernel)⟩
theorem lw_p3 : lw_okq (⟨"ExamTour$Parser", "openGrade", "()LExamTour$Grade;"⟩, 6) := ⟨⟨by decide +kernel, by decide +kernel⟩, List.mem_of_getElem? (i := 23) (by decide +kernel), List.mem_of_getElem? (i := 471) (by decide +kernel), List.mem_of_getElem? (i := 472) (by decide +kernel)⟩
theorem lw_p4 : lw_okq (⟨"ExamTour$Parser", "take", "(I)V"⟩, 6) := ⟨⟨by decide +kernel, by decide +kernel⟩, List.mem_of_getElem? (i := 23) (by decide +kernel), List.mem_of_getElem? (i := 475) (by decide +kernel), List.mem_of_getElem? (i := 476) (by decide +kernel)⟩
theorem lw_p5 : lw_okq (⟨"ExamTour$Parser", "refuse", "()V"⟩, 6) := ⟨⟨by decide +kernel, by decide +kernel⟩, List.mem_of_getElem? (i := 23) (by decide +kernel), List.mem_of_getElem? (i := 480) (by decide +kernel), List.mem_of_getElem? (i := 481) (by decide +kernel)⟩
theorem lw_p6 : lw_okq (⟨"ExamTour$Parser", "fail", "(II)V"⟩, 6) := ⟨⟨by decide +kernel, by decide +kernel⟩, List.mem_of_getElem? (i := 23) (by decide +kernel), List.mem_of_getElem? (i := 484) (by decide +kernel), List.mem_of_getElem? (i := 485) (by decide +kernel)⟩
theorem lw_p7 : lw_okq (⟨"ExamTour$Parser", "takeNumber", "(II)I"⟩, 6) := ⟨⟨by decide +kernel, by decide +kernel⟩, List.mem_of_getElem? (i := 23) (by decide +kernel), List.mem_of_getElem? (i := 488) (by decide +kernel), List.mem_of_getElem? (i := 489) (by decide +kernel)⟩
theorem lw_p8 : lw_okq (⟨"ExamTour$Parser", "readItem", "(LExamTour$Grade;)V"⟩, 6) := ⟨⟨by decide +kernel, by decide +kernel⟩, List.mem_of_getElem? (i := 23) (by decide +kernel), List.mem_of_getElem? (i := 500) (by decide +kernel), List.mem_of_getElem? (i := 501) (by decide +kernel)⟩
theorem lw_p9 : lw_okq (⟨"ExamTour$Parser", "cannotStartItem", "(LExamTour$Grade;)Z"⟩, 6) := ⟨⟨by decide +kernel, by decide +kernel⟩, List.mem_of_getElem? (i := 23) (by decide +kernel), List.mem_of_getElem? (i := 504) (by decide +kernel), List.mem_of_getElem? (i := 505) (by decide +kernel)⟩
theorem lw_p10 : lw_okq (⟨"ExamTour$Parser", "readList", "(LExamTour$Grade;)V"⟩, 6) := ⟨⟨by decide +kernel, by decide +kernel⟩, List.mem_of_getElem? (i := 23) (by decide +kernel), List.mem_of_getElem? (i := 508) (by decide +kernel), List.mem_of_getElem? (i := 509) (by decide +kernel)⟩
theorem lw_p11 : lw_okq (⟨"ExamTour$Parser", "takeNewName", "(LExamTour$Grade;)J"⟩, 6) := ⟨⟨by decide +kernel, by decide +kernel⟩, List.mem_of_getElem? (i := 23) (by decide +kernel), List.mem_of_getElem? (i := 512) (by decide +kernel), List.mem_of_getElem? (i := 513) (by decide +kernel)⟩
theorem lw_p12 : lw_okq (⟨"ExamTour$Parser", "takeListed", "(LExamTour$Grade;)V"⟩, 6) := ⟨⟨by decide +kernel, by decide +kernel⟩, List.mem_of_getElem? (i := 23) (by decide +kernel), List.mem_of_getElem? (i := 531) (by decide +kernel), List.mem_of_getElem? (i := 532) (by decide +kernel)⟩
theorem lw_p13 : lw_okq (⟨"ExamTour$Parser", "readPart", "(LExamTour$Grade;)V"⟩, 6) := ⟨⟨by decide +kernel, by decide +kernel⟩, List.mem_of_getElem? (i := 23) (by decide +kernel), List.mem_of_getElem? (i := 547) (by decide +kernel), List.mem_of_getElem? (i := 548) (by decide +kernel)⟩
theorem lw_p14 : lw_okq (⟨"ExamTour$Parser", "readE", "(LExamTour$Grade;I)V"⟩, 6) := ⟨⟨by decide +kernel, by decide +kernel⟩, List.mem_of_getElem? (i := 23) (by decide +kernel), List.mem_of_getElem? (i := 559) (by decide +kernel), List.mem_of_getElem? (i := 560) (by decide +kernel)⟩
theorem lw_p15 : lw_okq (⟨"ExamTour$Parser", "readBoth", "(LExamTour$Grade;I)V"⟩, 6) := ⟨⟨by decide +kernel, by decide +kernel⟩, List.mem_of_getElem? (i := 23) (by decide +kernel), List.mem_of_getElem? (i := 563) (by decide +kernel), List.mem_of_getElem? (i := 564) (by decide +kernel)⟩
def lw_privs_1 : List (MethodName × Nat) := [(⟨"ExamTour$Tokens", "byteAt", "(I)I"⟩, 7), (⟨"ExamTour$Tokens", "readWord", "()V"⟩, 7), (⟨"ExamTour$Tokens", "readNumber", "()V"⟩, 7), (⟨"ExamTour$Parser", "openGrade", "()LExamTour$Grade;"⟩, 6), (⟨"ExamTour$Parser", "take", "(I)V"⟩, 6), (⟨"ExamTour$Parser", "refuse", "()V"⟩, 6), (⟨"ExamTour$Parser", "fail", "(II)V"⟩, 6), (⟨"ExamTour$Parser", "takeNumber", "(II)I"⟩, 6), (⟨"ExamTour$Parser", "readItem", "(LExamTour$Grade;)V"⟩, 6), (⟨"ExamTour$Parser", "cannotStartItem", "(LExamTour$Grade;)Z"⟩, 6), (⟨"ExamTour$Parser", "readList", "(LExamTour$Grade;)V"⟩, 6), (⟨"ExamTour$Parser", "takeNewName", "(LExamTour$Grade;)J"⟩, 6), (⟨"ExamTour$Parser", "takeListed", "(LExamTour$Grade;)V"⟩, 6), (⟨"ExamTour$Parser", "readPart", "(LExamTour$Grade;)V"⟩, 6), (⟨"ExamTour$Parser", "readE", "(LExamTour$Grade;I)V"⟩, 6), (⟨"ExamTour$Parser", "readBoth", "(LExamTour$Grade;I)V"⟩, 6)]
theorem lw_r1 : ∀ q ∈ lw_privs_1, lw_okq q := List.forall_mem_cons.mpr ⟨lw_p0, List.forall_mem_cons.mpr ⟨lw_p1, List.forall_mem_cons.mpr ⟨lw_p2, List.forall_mem_cons.mpr ⟨lw_p3, List.forall_mem_cons.mpr ⟨lw_p4, List.forall_mem_cons.mpr ⟨lw_p5, List.forall_mem_cons.mpr ⟨lw_p6, List.forall_mem_cons.mpr ⟨lw_p7, List.forall_mem_cons.mpr ⟨lw_p8, List.forall_mem_cons.mpr ⟨lw_p9, List.forall_mem_cons.mpr ⟨lw_p10, List.forall_mem_cons.mpr ⟨lw_p11, List.forall_mem_cons.mpr ⟨lw_p12, List.forall_mem_cons.mpr ⟨lw_p13, List.forall_mem_cons.mpr ⟨lw_p14, List.forall_mem_cons.mpr ⟨lw_p15, fun _ h => absurd h List.not_mem_nil⟩⟩⟩⟩⟩⟩⟩⟩⟩⟩⟩⟩⟩⟩⟩⟩
theorem lw_p16 : lw_okq (⟨"ExamTour$Parser", "readOne", "(LExamTour$Grade;I)V"⟩, 6) := ⟨⟨by decide +kernel, by decide +kernel⟩, List.mem_of_getElem? (i := 23) (by decide +kernel), List.mem_of_getElem? (i := 567) (by decide +kernel), List.mem_of_getElem? (i := 568) (by decide +kernel)⟩
theorem lw_p17 : lw_okq (⟨"ExamTour$Parser", "readCompared", "(LExamTour$Grade;I)V"⟩, 6) := ⟨⟨by decide +kernel, by decide +kernel⟩, List.mem_of_getElem? (i := 23) (by decide +kernel), List.mem_of_getElem? (i := 575) (by decide +kernel), List.mem_of_getElem? (i := 576) (by decide +kernel)⟩
theorem lw_p18 : lw_okq (⟨"ExamTour$Parser", "readSum", "(LExamTour$Grade;I)V"⟩, 6) := ⟨⟨by decide +kernel, by decide +kernel⟩, List.mem_of_getElem? (i := 23) (by decide +kernel), List.mem_of_getElem? (i := 579) (by decide +kernel), List.mem_of_getElem? (i := 580) (by decide +kernel)⟩
theorem lw_p19 : lw_okq (⟨"ExamTour$Parser", "readLeaf", "(LExamTour$Grade;I)V"⟩, 6) := ⟨⟨by decide +kernel, by decide +kernel⟩, List.mem_of_getElem? (i := 23) (by decide +kernel), List.mem_of_getElem? (i := 583) (by decide +kernel), List.mem_of_getElem? (i := 584) (by decide +kernel)⟩
theorem lw_p20 : lw_okq (⟨"ExamTour$Parser", "addMeaning", "(LExamTour$Grade;)V"⟩, 6) := ⟨⟨by decide +kernel, by decide +kernel⟩, List.mem_of_getElem? (i := 23) (by decide +kernel), List.mem_of_getElem? (i := 590) (by decide +kernel), List.mem_of_getElem? (i := 591) (by decide +kernel)⟩
theorem lw_p21 : lw_okq (⟨"ExamTour$Parser", "addNamed", "(II)V"⟩, 6) := ⟨⟨by decide +kernel, by decide +kernel⟩, List.mem_of_getElem? (i := 23) (by decide +kernel), List.mem_of_getElem? (i := 594) (by decide +kernel), List.mem_of_getElem? (i := 595) (by decide +kernel)⟩
theorem lw_p22 : lw_okq (⟨"ExamTour", "gradesOf", "(I)I"⟩, 8) := ⟨⟨by decide +kernel, by decide +kernel⟩, List.mem_of_getElem? (i := 15) (by decide +kernel), List.mem_of_getElem? (i := 602) (by decide +kernel), List.mem_of_getElem? (i := 603) (by decide +kernel)⟩
theorem lw_p23 : lw_okq (⟨"ExamTour", "findGrade", "(II)LExamTour$Grade;"⟩, 8) := ⟨⟨by decide +kernel, by decide +kernel⟩, List.mem_of_getElem? (i := 15) (by decide +kernel), List.mem_of_getElem? (i := 614) (by decide +kernel), List.mem_of_getElem? (i := 615) (by decide +kernel)⟩
theorem lw_p24 : lw_okq (⟨"ExamTour", "firstUnmet", "(I)I"⟩, 8) := ⟨⟨by decide +kernel, by decide +kernel⟩, List.mem_of_getElem? (i := 15) (by decide +kernel), List.mem_of_getElem? (i := 657) (by decide +kernel), List.mem_of_getElem? (i := 658) (by decide +kernel)⟩
theorem lw_p25 : lw_okq (⟨"ExamTour", "gradeOf", "(I)LExamTour$Grade;"⟩, 8) := ⟨⟨by decide +kernel, by decide +kernel⟩, List.mem_of_getElem? (i := 15) (by decide +kernel), List.mem_of_getElem? (i := 661) (by decide +kernel), List.mem_of_getElem? (i := 662) (by decide +kernel)⟩
theorem lw_p26 : lw_okq (⟨"ExamTour$Judge", "markLeaf", "(IILExamTour$Grade;)I"⟩, 3) := ⟨⟨by decide +kernel, by decide +kernel⟩, List.mem_of_getElem? (i := 174) (by decide +kernel), List.mem_of_getElem? (i := 673) (by decide +kernel), List.mem_of_getElem? (i := 674) (by decide +kernel)⟩
theorem lw_p27 : lw_okq (⟨"ExamTour$Judge", "total", "(I)I"⟩, 3) := ⟨⟨by decide +kernel, by decide +kernel⟩, List.mem_of_getElem? (i := 174) (by decide +kernel), List.mem_of_getElem? (i := 677) (by decide +kernel), List.mem_of_getElem? (i := 678) (by decide +kernel)⟩
theorem lw_p28 : lw_okq (⟨"ExamTour$Judge", "least", "(I)I"⟩, 3) := ⟨⟨by decide +kernel, by decide +kernel⟩, List.mem_of_getElem? (i := 174) (by decide +kernel), List.mem_of_getElem? (i := 681) (by decide +kernel), List.mem_of_getElem? (i := 682) (by decide +kernel)⟩
theorem lw_p29 : lw_okq (⟨"ExamTour$Judge", "push", "(I)V"⟩, 3) := ⟨⟨by decide +kernel, by decide +kernel⟩, List.mem_of_getElem? (i := 174) (by decide +kernel), List.mem_of_getElem? (i := 688) (by decide +kernel), List.mem_of_getElem? (i := 689) (by decide +kernel)⟩
theorem lw_p30 : lw_okq (⟨"ExamTour$Judge", "pieceLeaf", "(IILExamTour$Grade;LExamTour$Entries;I)I"⟩, 3) := ⟨⟨by decide +kernel, by decide +kernel⟩, List.mem_of_getElem? (i := 174) (by decide +kernel), List.mem_of_getElem? (i := 692) (by decide +kernel), List.mem_of_getElem? (i := 693) (by decide +kernel)⟩
theorem lw_p31 : lw_okq (⟨"ExamTour$Judge", "pop", "()I"⟩, 3) := ⟨⟨by decide +kernel, by decide +kernel⟩, List.mem_of_getElem? (i := 174) (by decide +kernel), List.mem_of_getElem? (i := 709) (by decide +kernel), List.mem_of_getElem? (i := 710) (by decide +kernel)⟩
def lw_privs_2 : List (MethodName × Nat) := [(⟨"ExamTour$Parser", "readOne", "(LExamTour$Grade;I)V"⟩, 6), (⟨"ExamTour$Parser", "readCompared", "(LExamTour$Grade;I)V"⟩, 6), (⟨"ExamTour$Parser", "readSum", "(LExamTour$Grade;I)V"⟩, 6), (⟨"ExamTour$Parser", "readLeaf", "(LExamTour$Grade;I)V"⟩, 6), (⟨"ExamTour$Parser", "addMeaning", "(LExamTour$Grade;)V"⟩, 6), (⟨"ExamTour$Parser", "addNamed", "(II)V"⟩, 6), (⟨"ExamTour", "gradesOf", "(I)I"⟩, 8), (⟨"ExamTour", "findGrade", "(II)LExamTour$Grade;"⟩, 8), (⟨"ExamTour", "firstUnmet", "(I)I"⟩, 8), (⟨"ExamTour", "gradeOf", "(I)LExamTour$Grade;"⟩, 8), (⟨"ExamTour$Judge", "markLeaf", "(IILExamTour$Grade;)I"⟩, 3), (⟨"ExamTour$Judge", "total", "(I)I"⟩, 3), (⟨"ExamTour$Judge", "least", "(I)I"⟩, 3), (⟨"ExamTour$Judge", "push", "(I)V"⟩, 3), (⟨"ExamTour$Judge", "pieceLeaf", "(IILExamTour$Grade;LExamTour$Entries;I)I"⟩, 3), (⟨"ExamTour$Judge", "pop", "()I"⟩, 3)]
theorem lw_r2 : ∀ q ∈ lw_privs_2, lw_okq q := List.forall_mem_cons.mpr ⟨lw_p16, List.forall_mem_cons.mpr ⟨lw_p17, List.forall_mem_cons.mpr ⟨lw_p18, List.forall_mem_cons.mpr ⟨lw_p19, List.forall_mem_cons.mpr ⟨lw_p20, List.forall_mem_cons.mpr ⟨lw_p21, List.forall_mem_cons.mpr ⟨lw_p22, List.forall_mem_cons.mpr ⟨lw_p23, List.forall_mem_cons.mpr ⟨lw_p24, List.forall_mem_cons.mpr ⟨lw_p25, List.forall_mem_cons.mpr ⟨lw_p26, List.forall_mem_cons.mpr ⟨lw_p27, List.forall_mem_cons.mpr ⟨lw_p28, List.forall_mem_cons.mpr ⟨lw_p29, List.forall_mem_cons.mpr ⟨lw_p30, List.forall_mem_cons.mpr ⟨lw_p31, fun _ h => absurd h List.not_mem_nil⟩⟩⟩⟩⟩⟩⟩⟩⟩⟩⟩⟩⟩⟩⟩⟩
theorem lw_p32 : lw_okq (⟨"ExamTour", "minutesWith", "(II)I"⟩, 8) := ⟨⟨by decide +kernel, by decide +kernel⟩, List.mem_of_getElem? (i := 15) (by decide +kernel), List.mem_of_getElem? (i := 760) (by decide +kernel), List.mem_of_getElem? (i := 761) (by decide +kernel)⟩
theorem lw_p33 : lw_okq (⟨"ExamTour", "minutesOf", "(I)I"⟩, 8) := ⟨⟨by decide +kernel, by decide +kernel⟩, List.mem_of_getElem? (i := 15) (by decide +kernel), List.mem_of_getElem? (i := 764) (by decide +kernel), List.mem_of_getElem? (i := 765) (by decide +kernel)⟩
theorem lw_p34 : lw_okq (⟨"ExamTour", "mayTake", "(II)Z"⟩, 8) := ⟨⟨by decide +kernel, by decide +kernel⟩, List.mem_of_getElem? (i := 15) (by decide +kernel), List.mem_of_getElem? (i := 780) (by decide +kernel), List.mem_of_getElem? (i := 781) (by decide +kernel)⟩
theorem lw_p35 : lw_okq (⟨"ExamTour", "mayHear", "(II)Z"⟩, 8) := ⟨⟨by decide +kernel, by decide +kernel⟩, List.mem_of_getElem? (i := 15) (by decide +kernel), List.mem_of_getElem? (i := 784) (by decide +kernel), List.mem_of_getElem? (i := 785) (by decide +kernel)⟩
theorem lw_p36 : lw_okq (⟨"ExamTour", "heardElsewhere", "(II)Z"⟩, 8) := ⟨⟨by decide +kernel, by decide +kernel⟩, List.mem_of_getElem? (i := 15) (by decide +kernel), List.mem_of_getElem? (i := 792) (by decide +kernel), List.mem_of_getElem? (i := 793) (by decide +kernel)⟩
theorem lw_p37 : lw_okq (⟨"ExamTour$Planner", "orderByDay", "(LExamTour$Circuit;)V"⟩, 9) := ⟨⟨by decide +kernel, by decide +kernel⟩, List.mem_of_getElem? (i := 278) (by decide +kernel), List.mem_of_getElem? (i := 812) (by decide +kernel), List.mem_of_getElem? (i := 813) (by decide +kernel)⟩
theorem lw_p38 : lw_okq (⟨"ExamTour$Planner", "startDay", "(Z)V"⟩, 9) := ⟨⟨by decide +kernel, by decide +kernel⟩, List.mem_of_getElem? (i := 278) (by decide +kernel), List.mem_of_getElem? (i := 816) (by decide +kernel), List.mem_of_getElem? (i := 817) (by decide +kernel)⟩
theorem lw_p39 : lw_okq (⟨"ExamTour$Planner", "sendAllHome", "()V"⟩, 9) := ⟨⟨by decide +kernel, by decide +kernel⟩, List.mem_of_getElem? (i := 278) (by decide +kernel), List.mem_of_getElem? (i := 820) (by decide +kernel), List.mem_of_getElem? (i := 821) (by decide +kernel)⟩
theorem lw_p40 : lw_okq (⟨"ExamTour$Planner", "giveDay", "(LExamTour$Circuit;IIIJ)V"⟩, 9) := ⟨⟨by decide +kernel, by decide +kernel⟩, List.mem_of_getElem? (i := 278) (by decide +kernel), List.mem_of_getElem? (i := 828) (by decide +kernel), List.mem_of_getElem? (i := 829) (by decide +kernel)⟩
theorem lw_p41 : lw_okq (⟨"ExamTour$Planner", "addState", "(LExamTour$Circuit;IJ)V"⟩, 9) := ⟨⟨by decide +kernel, by decide +kernel⟩, List.mem_of_getElem? (i := 278) (by decide +kernel), List.mem_of_getElem? (i := 832) (by decide +kernel), List.mem_of_getElem? (i := 833) (by decide +kernel)⟩
theorem lw_p42 : lw_okq (⟨"ExamTour$Planner", "choose", "(IJ)V"⟩, 9) := ⟨⟨by decide +kernel, by decide +kernel⟩, List.mem_of_getElem? (i := 278) (by decide +kernel), List.mem_of_getElem? (i := 851) (by decide +kernel), List.mem_of_getElem? (i := 852) (by decide +kernel)⟩
theorem lw_p43 : lw_okq (⟨"ExamTour", "canBeTaken", "(I)Z"⟩, 8) := ⟨⟨by decide +kernel, by decide +kernel⟩, List.mem_of_getElem? (i := 15) (by decide +kernel), List.mem_of_getElem? (i := 863) (by decide +kernel), List.mem_of_getElem? (i := 864) (by decide +kernel)⟩
theorem lw_p44 : lw_okq (⟨"ExamTour", "canBeMarked", "(III)Z"⟩, 8) := ⟨⟨by decide +kernel, by decide +kernel⟩, List.mem_of_getElem? (i := 15) (by decide +kernel), List.mem_of_getElem? (i := 876) (by decide +kernel), List.mem_of_getElem? (i := 877) (by decide +kernel)⟩
theorem lw_p45 : lw_okq (⟨"ExamTour$Ledger", "lastOf", "(IIII)I"⟩, 9) := ⟨⟨by decide +kernel, by decide +kernel⟩, List.mem_of_getElem? (i := 314) (by decide +kernel), List.mem_of_getElem? (i := 892) (by decide +kernel), List.mem_of_getElem? (i := 893) (by decide +kernel)⟩
theorem lw_p46 : lw_okq (⟨"ExamTour$Ledger", "isKnown", "(II)Z"⟩, 9) := ⟨⟨by decide +kernel, by decide +kernel⟩, List.mem_of_getElem? (i := 314) (by decide +kernel), List.mem_of_getElem? (i := 896) (by decide +kernel), List.mem_of_getElem? (i := 897) (by decide +kernel)⟩
theorem lw_p47 : lw_okq (⟨"ExamTour", "resultOf", "(II)I"⟩, 8) := ⟨⟨by decide +kernel, by decide +kernel⟩, List.mem_of_getElem? (i := 15) (by decide +kernel), List.mem_of_getElem? (i := 926) (by decide +kernel), List.mem_of_getElem? (i := 927) (by decide +kernel)⟩
def lw_privs_3 : List (MethodName × Nat) := [(⟨"ExamTour", "minutesWith", "(II)I"⟩, 8), (⟨"ExamTour", "minutesOf", "(I)I"⟩, 8), (⟨"ExamTour", "mayTake", "(II)Z"⟩, 8), (⟨"ExamTour", "mayHear", "(II)Z"⟩, 8), (⟨"ExamTour", "heardElsewhere", "(II)Z"⟩, 8), (⟨"ExamTour$Planner", "orderByDay", "(LExamTour$Circuit;)V"⟩, 9), (⟨"ExamTour$Planner", "startDay", "(Z)V"⟩, 9), (⟨"ExamTour$Planner", "sendAllHome", "()V"⟩, 9), (⟨"ExamTour$Planner", "giveDay", "(LExamTour$Circuit;IIIJ)V"⟩, 9), (⟨"ExamTour$Planner", "addState", "(LExamTour$Circuit;IJ)V"⟩, 9), (⟨"ExamTour$Planner", "choose", "(IJ)V"⟩, 9), (⟨"ExamTour", "canBeTaken", "(I)Z"⟩, 8), (⟨"ExamTour", "canBeMarked", "(III)Z"⟩, 8), (⟨"ExamTour$Ledger", "lastOf", "(IIII)I"⟩, 9), (⟨"ExamTour$Ledger", "isKnown", "(II)Z"⟩, 9), (⟨"ExamTour", "resultOf", "(II)I"⟩, 8)]
theorem lw_r3 : ∀ q ∈ lw_privs_3, lw_okq q := List.forall_mem_cons.mpr ⟨lw_p32, List.forall_mem_cons.mpr ⟨lw_p33, List.forall_mem_cons.mpr ⟨lw_p34, List.forall_mem_cons.mpr ⟨lw_p35, List.forall_mem_cons.mpr ⟨lw_p36, List.forall_mem_cons.mpr ⟨lw_p37, List.forall_mem_cons.mpr ⟨lw_p38, List.forall_mem_cons.mpr ⟨lw_p39, List.forall_mem_cons.mpr ⟨lw_p40, List.forall_mem_cons.mpr ⟨lw_p41, List.forall_mem_cons.mpr ⟨lw_p42, List.forall_mem_cons.mpr ⟨lw_p43, List.forall_mem_cons.mpr ⟨lw_p44, List.forall_mem_cons.mpr ⟨lw_p45, List.forall_mem_cons.mpr ⟨lw_p46, List.forall_mem_cons.mpr ⟨lw_p47, fun _ h => absurd h List.not_mem_nil⟩⟩⟩⟩⟩⟩⟩⟩⟩⟩⟩⟩⟩⟩⟩⟩
theorem lw_p48 : lw_okq (⟨"ExamTour$Ledger", "insertGap", "(II)I"⟩, 9) := ⟨⟨by decide +kernel, by decide +kernel⟩, List.mem_of_getElem? (i := 314) (by decide +kernel), List.mem_of_getElem? (i := 938) (by decide +kernel), List.mem_of_getElem? (i := 939) (by decide +kernel)⟩
theorem lw_p49 : lw_okq (⟨"ExamTourModel", "next", "()V"⟩, 77) := ⟨⟨by decide +kernel, by decide +kernel⟩, List.mem_of_getElem? (i := 970) (by decide +kernel), List.mem_of_getElem? (i := 1212) (by decide +kernel), List.mem_of_getElem? (i := 1213) (by decide +kernel)⟩
theorem lw_p50 : lw_okq (⟨"ExamTourModel", "sign", "(I)I"⟩, 77) := ⟨⟨by decide +kernel, by decide +kernel⟩, List.mem_of_getElem? (i := 970) (by decide +kernel), List.mem_of_getElem? (i := 1216) (by decide +kernel), List.mem_of_getElem? (i := 1217) (by decide +kernel)⟩
theorem lw_p51 : lw_okq (⟨"ExamTourModel", "isGood", "()Z"⟩, 77) := ⟨⟨by decide +kernel, by decide +kernel⟩, List.mem_of_getElem? (i := 970) (by decide +kernel), List.mem_of_getElem? (i := 1247) (by decide +kernel), List.mem_of_getElem? (i := 1248) (by decide +kernel)⟩
theorem lw_p52 : lw_okq (⟨"ExamTourModel", "readGrade", "()V"⟩, 77) := ⟨⟨by decide +kernel, by decide +kernel⟩, List.mem_of_getElem? (i := 970) (by decide +kernel), List.mem_of_getElem? (i := 1251) (by decide +kernel), List.mem_of_getElem? (i := 1252) (by decide +kernel)⟩
theorem lw_p53 : lw_okq (⟨"ExamTourModel", "isWord", "(J)Z"⟩, 77) := ⟨⟨by decide +kernel, by decide +kernel⟩, List.mem_of_getElem? (i := 970) (by decide +kernel), List.mem_of_getElem? (i := 1255) (by decide +kernel), List.mem_of_getElem? (i := 1256) (by decide +kernel)⟩
theorem lw_p54 : lw_okq (⟨"ExamTourModel", "wrong", "()V"⟩, 77) := ⟨⟨by decide +kernel, by decide +kernel⟩, List.mem_of_getElem? (i := 970) (by decide +kernel), List.mem_of_getElem? (i := 1259) (by decide +kernel), List.mem_of_getElem? (i := 1260) (by decide +kernel)⟩
theorem lw_p55 : lw_okq (⟨"ExamTourModel", "fails", "(II)V"⟩, 77) := ⟨⟨by decide +kernel, by decide +kernel⟩, List.mem_of_getElem? (i := 970) (by decide +kernel), List.mem_of_getElem? (i := 1263) (by decide +kernel), List.mem_of_getElem? (i := 1264) (by decide +kernel)⟩
theorem lw_p56 : lw_okq (⟨"ExamTourModel", "numberOf", "(II)I"⟩, 77) := ⟨⟨by decide +kernel, by decide +kernel⟩, List.mem_of_getElem? (i := 970) (by decide +kernel), List.mem_of_getElem? (i := 1267) (by decide +kernel), List.mem_of_getElem? (i := 1268) (by decide +kernel)⟩
theorem lw_p57 : lw_okq (⟨"ExamTourModel", "must", "(I)V"⟩, 77) := ⟨⟨by decide +kernel, by decide +kernel⟩, List.mem_of_getElem? (i := 970) (by decide +kernel), List.mem_of_getElem? (i := 1271) (by decide +kernel), List.mem_of_getElem? (i := 1272) (by decide +kernel)⟩
theorem lw_p58 : lw_okq (⟨"ExamTourModel", "is", "(I)Z"⟩, 77) := ⟨⟨by decide +kernel, by decide +kernel⟩, List.mem_of_getElem? (i := 970) (by decide +kernel), List.mem_of_getElem? (i := 1275) (by decide +kernel), List.mem_of_getElem? (i := 1276) (by decide +kernel)⟩
theorem lw_p59 : lw_okq (⟨"ExamTourModel", "readItem", "(I)V"⟩, 77) := ⟨⟨by decide +kernel, by decide +kernel⟩, List.mem_of_getElem? (i := 970) (by decide +kernel), List.mem_of_getElem? (i := 1279) (by decide +kernel), List.mem_of_getElem? (i := 1280) (by decide +kernel)⟩
theorem lw_p60 : lw_okq (⟨"ExamTourModel", "readList", "(I)V"⟩, 77) := ⟨⟨by decide +kernel, by decide +kernel⟩, List.mem_of_getElem? (i := 970) (by decide +kernel), List.mem_of_getElem? (i := 1283) (by decide +kernel), List.mem_of_getElem? (i := 1284) (by decide +kernel)⟩
theorem lw_p61 : lw_okq (⟨"ExamTourModel", "canName", "(I)Z"⟩, 77) := ⟨⟨by decide +kernel, by decide +kernel⟩, List.mem_of_getElem? (i := 970) (by decide +kernel), List.mem_of_getElem? (i := 1287) (by decide +kernel), List.mem_of_getElem? (i := 1288) (by decide +kernel)⟩
theorem lw_p62 : lw_okq (⟨"ExamTourModel", "listOf", "(IJ)I"⟩, 77) := ⟨⟨by decide +kernel, by decide +kernel⟩, List.mem_of_getElem? (i := 970) (by decide +kernel), List.mem_of_getElem? (i := 1291) (by decide +kernel), List.mem_of_getElem? (i := 1292) (by decide +kernel)⟩
theorem lw_p63 : lw_okq (⟨"ExamTourModel", "partOf", "(IJ)I"⟩, 77) := ⟨⟨by decide +kernel, by decide +kernel⟩, List.mem_of_getElem? (i := 970) (by decide +kernel), List.mem_of_getElem? (i := 1295) (by decide +kernel), List.mem_of_getElem? (i := 1296) (by decide +kernel)⟩
def lw_privs_4 : List (MethodName × Nat) := [(⟨"ExamTour$Ledger", "insertGap", "(II)I"⟩, 9), (⟨"ExamTourModel", "next", "()V"⟩, 77), (⟨"ExamTourModel", "sign", "(I)I"⟩, 77), (⟨"ExamTourModel", "isGood", "()Z"⟩, 77), (⟨"ExamTourModel", "readGrade", "()V"⟩, 77), (⟨"ExamTourModel", "isWord", "(J)Z"⟩, 77), (⟨"ExamTourModel", "wrong", "()V"⟩, 77), (⟨"ExamTourModel", "fails", "(II)V"⟩, 77), (⟨"ExamTourModel", "numberOf", "(II)I"⟩, 77), (⟨"ExamTourModel", "must", "(I)V"⟩, 77), (⟨"ExamTourModel", "is", "(I)Z"⟩, 77), (⟨"ExamTourModel", "readItem", "(I)V"⟩, 77), (⟨"ExamTourModel", "readList", "(I)V"⟩, 77), (⟨"ExamTourModel", "canName", "(I)Z"⟩, 77), (⟨"ExamTourModel", "listOf", "(IJ)I"⟩, 77), (⟨"ExamTourModel", "partOf", "(IJ)I"⟩, 77)]
theorem lw_r4 : ∀ q ∈ lw_privs_4, lw_okq q := List.forall_mem_cons.mpr ⟨lw_p48, List.forall_mem_cons.mpr ⟨lw_p49, List.forall_mem_cons.mpr ⟨lw_p50, List.forall_mem_cons.mpr ⟨lw_p51, List.forall_mem_cons.mpr ⟨lw_p52, List.forall_mem_cons.mpr ⟨lw_p53, List.forall_mem_cons.mpr ⟨lw_p54, List.forall_mem_cons.mpr ⟨lw_p55, List.forall_mem_cons.mpr ⟨lw_p56, List.forall_mem_cons.mpr ⟨lw_p57, List.forall_mem_cons.mpr ⟨lw_p58, List.forall_mem_cons.mpr ⟨lw_p59, List.forall_mem_cons.mpr ⟨lw_p60, List.forall_mem_cons.mpr ⟨lw_p61, List.forall_mem_cons.mpr ⟨lw_p62, List.forall_mem_cons.mpr ⟨lw_p63, fun _ h => absurd h List.not_mem_nil⟩⟩⟩⟩⟩⟩⟩⟩⟩⟩⟩⟩⟩⟩⟩⟩
theorem lw_p64 : lw_okq (⟨"ExamTourModel", "hasPiece", "(IJ)Z"⟩, 77) := ⟨⟨by decide +kernel, by decide +kernel⟩, List.mem_of_getElem? (i := 970) (by decide +kernel), List.mem_of_getElem? (i := 1299) (by decide +kernel), List.mem_of_getElem? (i := 1300) (by decide +kernel)⟩
theorem lw_p65 : lw_okq (⟨"ExamTourModel", "readPart", "(I)V"⟩, 77) := ⟨⟨by decide +kernel, by decide +kernel⟩, List.mem_of_getElem? (i := 970) (by decide +kernel), List.mem_of_getElem? (i := 1303) (by decide +kernel), List.mem_of_getElem? (i := 1304) (by decide +kernel)⟩
theorem lw_p66 : lw_okq (⟨"ExamTourModel", "e", "(IZ)V"⟩, 77) := ⟨⟨by decide +kernel, by decide +kernel⟩, List.mem_of_getElem? (i := 970) (by decide +kernel), List.mem_of_getElem? (i := 1307) (by decide +kernel), List.mem_of_getElem? (i := 1308) (by decide +kernel)⟩
theorem lw_p67 : lw_okq (⟨"ExamTourModel", "pile", "(II)V"⟩, 77) := ⟨⟨by decide +kernel, by decide +kernel⟩, List.mem_of_getElem? (i := 970) (by decide +kernel), List.mem_of_getElem? (i := 1311) (by decide +kernel), List.mem_of_getElem? (i := 1312) (by decide +kernel)⟩
theorem lw_p68 : lw_okq (⟨"ExamTourModel", "behind", "()I"⟩, 77) := ⟨⟨by decide +kernel, by decide +kernel⟩, List.mem_of_getElem? (i := 970) (by decide +kernel), List.mem_of_getElem? (i := 1315) (by decide +kernel), List.mem_of_getElem? (i := 1316) (by decide +kernel)⟩
theorem lw_p69 : lw_okq (⟨"ExamTourModel", "rankHere", "()I"⟩, 77) := ⟨⟨by decide +kernel, by decide +kernel⟩, List.mem_of_getElem? (i := 970) (by decide +kernel), List.mem_of_getElem? (i := 1319) (by decide +kernel), List.mem_of_getElem? (i := 1320) (by decide +kernel)⟩
theorem lw_p70 : lw_okq (⟨"ExamTourModel", "step", "(II)V"⟩, 77) := ⟨⟨by decide +kernel, by decide +kernel⟩, List.mem_of_getElem? (i := 970) (by decide +kernel), List.mem_of_getElem? (i := 1323) (by decide +kernel), List.mem_of_getElem? (i := 1324) (by decide +kernel)⟩
theorem lw_p71 : lw_okq (⟨"ExamTourModel", "value", "(IIZ)I"⟩, 77) := ⟨⟨by decide +kernel, by decide +kernel⟩, List.mem_of_getElem? (i := 970) (by decide +kernel), List.mem_of_getElem? (i := 1327) (by decide +kernel), List.mem_of_getElem? (i := 1328) (by decide +kernel)⟩
theorem lw_p72 : lw_okq (⟨"ExamTourModel", "meant", "(IZ)V"⟩, 77) := ⟨⟨by decide +kernel, by decide +kernel⟩, List.mem_of_getElem? (i := 970) (by decide +kernel), List.mem_of_getElem? (i := 1331) (by decide +kernel), List.mem_of_getElem? (i := 1332) (by decide +kernel)⟩
theorem lw_p73 : lw_okq (⟨"ExamTourModel", "spot", "(II)I"⟩, 77) := ⟨⟨by decide +kernel, by decide +kernel⟩, List.mem_of_getElem? (i := 970) (by decide +kernel), List.mem_of_getElem? (i := 1343) (by decide +kernel), List.mem_of_getElem? (i := 1344) (by decide +kernel)⟩
theorem lw_p74 : lw_okq (⟨"ExamTourModel", "minutesOf", "(I)I"⟩, 77) := ⟨⟨by decide +kernel, by decide +kernel⟩, List.mem_of_getElem? (i := 970) (by decide +kernel), List.mem_of_getElem? (i := 1347) (by decide +kernel), List.mem_of_getElem? (i := 1348) (by decide +kernel)⟩
theorem lw_p75 : lw_okq (⟨"ExamTourModel", "isEntry", "(I)Z"⟩, 77) := ⟨⟨by decide +kernel, by decide +kernel⟩, List.mem_of_getElem? (i := 970) (by decide +kernel), List.mem_of_getElem? (i := 1359) (by decide +kernel), List.mem_of_getElem? (i := 1360) (by decide +kernel)⟩
theorem lw_p76 : lw_okq (⟨"ExamTourModel", "spotOf", "(I)I"⟩, 77) := ⟨⟨by decide +kernel, by decide +kernel⟩, List.mem_of_getElem? (i := 970) (by decide +kernel), List.mem_of_getElem? (i := 1371) (by decide +kernel), List.mem_of_getElem? (i := 1372) (by decide +kernel)⟩
theorem lw_p77 : lw_okq (⟨"ExamTourModel", "work", "(IIII)I"⟩, 77) := ⟨⟨by decide +kernel, by decide +kernel⟩, List.mem_of_getElem? (i := 970) (by decide +kernel), List.mem_of_getElem? (i := 1375) (by decide +kernel), List.mem_of_getElem? (i := 1376) (by decide +kernel)⟩
theorem lw_p78 : lw_okq (⟨"ExamTourModel", "leaf", "(IIII)I"⟩, 77) := ⟨⟨by decide +kernel, by decide +kernel⟩, List.mem_of_getElem? (i := 970) (by decide +kernel), List.mem_of_getElem? (i := 1379) (by decide +kernel), List.mem_of_getElem? (i := 1380) (by decide +kernel)⟩
theorem lw_p79 : lw_okq (⟨"ExamTourModel", "inList", "(II)I"⟩, 77) := ⟨⟨by decide +kernel, by decide +kernel⟩, List.mem_of_getElem? (i := 970) (by decide +kernel), List.mem_of_getElem? (i := 1383) (by decide +kernel), List.mem_of_getElem? (i := 1384) (by decide +kernel)⟩
def lw_privs_5 : List (MethodName × Nat) := [(⟨"ExamTourModel", "hasPiece", "(IJ)Z"⟩, 77), (⟨"ExamTourModel", "readPart", "(I)V"⟩, 77), (⟨"ExamTourModel", "e", "(IZ)V"⟩, 77), (⟨"ExamTourModel", "pile", "(II)V"⟩, 77), (⟨"ExamTourModel", "behind", "()I"⟩, 77), (⟨"ExamTourModel", "rankHere", "()I"⟩, 77), (⟨"ExamTourModel", "step", "(II)V"⟩, 77), (⟨"ExamTourModel", "value", "(IIZ)I"⟩, 77), (⟨"ExamTourModel", "meant", "(IZ)V"⟩, 77), (⟨"ExamTourModel", "spot", "(II)I"⟩, 77), (⟨"ExamTourModel", "minutesOf", "(I)I"⟩, 77), (⟨"ExamTourModel", "isEntry", "(I)Z"⟩, 77), (⟨"ExamTourModel", "spotOf", "(I)I"⟩, 77), (⟨"ExamTourModel", "work", "(IIII)I"⟩, 77), (⟨"ExamTourModel", "leaf", "(IIII)I"⟩, 77), (⟨"ExamTourModel", "inList", "(II)I"⟩, 77)]
theorem lw_r5 : ∀ q ∈ lw_privs_5, lw_okq q := List.forall_mem_cons.mpr ⟨lw_p64, List.forall_mem_cons.mpr ⟨lw_p65, List.forall_mem_cons.mpr ⟨lw_p66, List.forall_mem_cons.mpr ⟨lw_p67, List.forall_mem_cons.mpr ⟨lw_p68, List.forall_mem_cons.mpr ⟨lw_p69, List.forall_mem_cons.mpr ⟨lw_p70, List.forall_mem_cons.mpr ⟨lw_p71, List.forall_mem_cons.mpr ⟨lw_p72, List.forall_mem_cons.mpr ⟨lw_p73, List.forall_mem_cons.mpr ⟨lw_p74, List.forall_mem_cons.mpr ⟨lw_p75, List.forall_mem_cons.mpr ⟨lw_p76, List.forall_mem_cons.mpr ⟨lw_p77, List.forall_mem_cons.mpr ⟨lw_p78, List.forall_mem_cons.mpr ⟨lw_p79, fun _ h => absurd h List.not_mem_nil⟩⟩⟩⟩⟩⟩⟩⟩⟩⟩⟩⟩⟩⟩⟩⟩
theorem lw_p80 : lw_okq (⟨"ExamTourModel", "inNone", "(II)I"⟩, 77) := ⟨⟨by decide +kernel, by decide +kernel⟩, List.mem_of_getElem? (i := 970) (by decide +kernel), List.mem_of_getElem? (i := 1387) (by decide +kernel), List.mem_of_getElem? (i := 1388) (by decide +kernel)⟩
theorem lw_p81 : lw_okq (⟨"ExamTourModel", "total", "(I)I"⟩, 77) := ⟨⟨by decide +kernel, by decide +kernel⟩, List.mem_of_getElem? (i := 970) (by decide +kernel), List.mem_of_getElem? (i := 1391) (by decide +kernel), List.mem_of_getElem? (i := 1392) (by decide +kernel)⟩
theorem lw_p82 : lw_okq (⟨"ExamTourModel", "leastMark", "(I)I"⟩, 77) := ⟨⟨by decide +kernel, by decide +kernel⟩, List.mem_of_getElem? (i := 970) (by decide +kernel), List.mem_of_getElem? (i := 1395) (by decide +kernel), List.mem_of_getElem? (i := 1396) (by decide +kernel)⟩
theorem lw_p83 : lw_okq (⟨"ExamTourModel", "isCentre", "(I)Z"⟩, 77) := ⟨⟨by decide +kernel, by decide +kernel⟩, List.mem_of_getElem? (i := 970) (by decide +kernel), List.mem_of_getElem? (i := 1410) (by decide +kernel), List.mem_of_getElem? (i := 1411) (by decide +kernel)⟩
theorem lw_p84 : lw_okq (⟨"ExamTourModel", "isSession", "(I)Z"⟩, 77) := ⟨⟨by decide +kernel, by decide +kernel⟩, List.mem_of_getElem? (i := 970) (by decide +kernel), List.mem_of_getElem? (i := 1426) (by decide +kernel), List.mem_of_getElem? (i := 1427) (by decide +kernel)⟩
theorem lw_p85 : lw_okq (⟨"ExamTourModel", "minutesIn", "(II)I"⟩, 77) := ⟨⟨by decide +kernel, by decide +kernel⟩, List.mem_of_getElem? (i := 970) (by decide +kernel), List.mem_of_getElem? (i := 1430) (by decide +kernel), List.mem_of_getElem? (i := 1431) (by decide +kernel)⟩
theorem lw_p86 : lw_okq (⟨"ExamTourModel", "isExaminer", "(I)Z"⟩, 77) := ⟨⟨by decide +kernel, by decide +kernel⟩, List.mem_of_getElem? (i := 970) (by decide +kernel), List.mem_of_getElem? (i := 1442) (by decide +kernel), List.mem_of_getElem? (i := 1443) (by decide +kernel)⟩
theorem lw_p87 : lw_okq (⟨"ExamTourModel", "mayTake", "(II)Z"⟩, 77) := ⟨⟨by decide +kernel, by decide +kernel⟩, List.mem_of_getElem? (i := 970) (by decide +kernel), List.mem_of_getElem? (i := 1446) (by decide +kernel), List.mem_of_getElem? (i := 1447) (by decide +kernel)⟩
theorem lw_p88 : lw_okq (⟨"ExamTourModel", "hasHeard", "(II)Z"⟩, 77) := ⟨⟨by decide +kernel, by decide +kernel⟩, List.mem_of_getElem? (i := 970) (by decide +kernel), List.mem_of_getElem? (i := 1450) (by decide +kernel), List.mem_of_getElem? (i := 1451) (by decide +kernel)⟩
theorem lw_p89 : lw_okq (⟨"ExamTourModel", "travel", "(II)I"⟩, 77) := ⟨⟨by decide +kernel, by decide +kernel⟩, List.mem_of_getElem? (i := 970) (by decide +kernel), List.mem_of_getElem? (i := 1462) (by decide +kernel), List.mem_of_getElem? (i := 1463) (by decide +kernel)⟩
theorem lw_p90 : lw_okq (⟨"ExamTourModel", "nextOf", "(II)I"⟩, 77) := ⟨⟨by decide +kernel, by decide +kernel⟩, List.mem_of_getElem? (i := 970) (by decide +kernel), List.mem_of_getElem? (i := 1467) (by decide +kernel), List.mem_of_getElem? (i := 1468) (by decide +kernel)⟩
theorem lw_p91 : lw_okq (⟨"ExamTourModel", "solve", "()I"⟩, 77) := ⟨⟨by decide +kernel, by decide +kernel⟩, List.mem_of_getElem? (i := 970) (by decide +kernel), List.mem_of_getElem? (i := 1471) (by decide +kernel), List.mem_of_getElem? (i := 1472) (by decide +kernel)⟩
theorem lw_p92 : lw_okq (⟨"ExamTourModel", "agrees", "(II)Z"⟩, 77) := ⟨⟨by decide +kernel, by decide +kernel⟩, List.mem_of_getElem? (i := 970) (by decide +kernel), List.mem_of_getElem? (i := 1475) (by decide +kernel), List.mem_of_getElem? (i := 1476) (by decide +kernel)⟩
theorem lw_p93 : lw_okq (⟨"ExamTourModel", "tell", "(IIII)I"⟩, 77) := ⟨⟨by decide +kernel, by decide +kernel⟩, List.mem_of_getElem? (i := 970) (by decide +kernel), List.mem_of_getElem? (i := 1492) (by decide +kernel), List.mem_of_getElem? (i := 1493) (by decide +kernel)⟩
theorem lw_p94 : lw_okq (⟨"ExamTourModel", "lastOf", "(IIII)I"⟩, 77) := ⟨⟨by decide +kernel, by decide +kernel⟩, List.mem_of_getElem? (i := 970) (by decide +kernel), List.mem_of_getElem? (i := 1504) (by decide +kernel), List.mem_of_getElem? (i := 1505) (by decide +kernel)⟩
theorem lw_p95 : lw_okq (⟨"ExamTourModel", "isKnown", "(II)Z"⟩, 77) := ⟨⟨by decide +kernel, by decide +kernel⟩, List.mem_of_getElem? (i := 970) (by decide +kernel), List.mem_of_getElem? (i := 1508) (by decide +kernel), List.mem_of_getElem? (i := 1509) (by decide +kernel)⟩
def lw_privs_6 : List (MethodName × Nat) := [(⟨"ExamTourModel", "inNone", "(II)I"⟩, 77), (⟨"ExamTourModel", "total", "(I)I"⟩, 77), (⟨"ExamTourModel", "leastMark", "(I)I"⟩, 77), (⟨"ExamTourModel", "isCentre", "(I)Z"⟩, 77), (⟨"ExamTourModel", "isSession", "(I)Z"⟩, 77), (⟨"ExamTourModel", "minutesIn", "(II)I"⟩, 77), (⟨"ExamTourModel", "isExaminer", "(I)Z"⟩, 77), (⟨"ExamTourModel", "mayTake", "(II)Z"⟩, 77), (⟨"ExamTourModel", "hasHeard", "(II)Z"⟩, 77), (⟨"ExamTourModel", "travel", "(II)I"⟩, 77), (⟨"ExamTourModel", "nextOf", "(II)I"⟩, 77), (⟨"ExamTourModel", "solve", "()I"⟩, 77), (⟨"ExamTourModel", "agrees", "(II)Z"⟩, 77), (⟨"ExamTourModel", "tell", "(IIII)I"⟩, 77), (⟨"ExamTourModel", "lastOf", "(IIII)I"⟩, 77), (⟨"ExamTourModel", "isKnown", "(II)Z"⟩, 77)]
theorem lw_r6 : ∀ q ∈ lw_privs_6, lw_okq q := List.forall_mem_cons.mpr ⟨lw_p80, List.forall_mem_cons.mpr ⟨lw_p81, List.forall_mem_cons.mpr ⟨lw_p82, List.forall_mem_cons.mpr ⟨lw_p83, List.forall_mem_cons.mpr ⟨lw_p84, List.forall_mem_cons.mpr ⟨lw_p85, List.forall_mem_cons.mpr ⟨lw_p86, List.forall_mem_cons.mpr ⟨lw_p87, List.forall_mem_cons.mpr ⟨lw_p88, List.forall_mem_cons.mpr ⟨lw_p89, List.forall_mem_cons.mpr ⟨lw_p90, List.forall_mem_cons.mpr ⟨lw_p91, List.forall_mem_cons.mpr ⟨lw_p92, List.forall_mem_cons.mpr ⟨lw_p93, List.forall_mem_cons.mpr ⟨lw_p94, List.forall_mem_cons.mpr ⟨lw_p95, fun _ h => absurd h List.not_mem_nil⟩⟩⟩⟩⟩⟩⟩⟩⟩⟩⟩⟩⟩⟩⟩⟩
theorem lw_p96 : lw_okq (⟨"ExamTourModel", "doesHold", "(II)Z"⟩, 77) := ⟨⟨by decide +kernel, by decide +kernel⟩, List.mem_of_getElem? (i := 970) (by decide +kernel), List.mem_of_getElem? (i := 1536) (by decide +kernel), List.mem_of_getElem? (i := 1537) (by decide +kernel)⟩
def lw_privs_7 : List (MethodName × Nat) := [(⟨"ExamTourModel", "doesHold", "(II)Z"⟩, 77)]
theorem lw_r7 : ∀ q ∈ lw_privs_7, lw_okq q := List.forall_mem_cons.mpr ⟨lw_p96, fun _ h => absurd h List.not_mem_nil⟩
def lw_privs : List (MethodName × Nat) := lw_privs_1 ++ (lw_privs_2 ++ (lw_privs_3 ++ (lw_privs_4 ++ (lw_privs_5 ++ (lw_privs_6 ++ (lw_privs_7))))))
def lw_tbl : List Cond := k2_sels lw_privs ++ tables_1
theorem lw_privs_ok : ∀ q ∈ lw_privs, lw_okq q := by
  show ∀ q ∈ lw_privs_1 ++ (lw_privs_2 ++ (lw_privs_3 ++ (lw_privs_4 ++ (lw_privs_5 ++ (lw_privs_6 ++ (lw_privs_7)))))), lw_okq q
  exact List.forall_mem_append.mpr ⟨lw_r1, List.forall_mem_append.mpr ⟨lw_r2, List.forall_mem_append.mpr ⟨lw_r3, List.forall_mem_append.mpr ⟨lw_r4, List.forall_mem_append.mpr ⟨lw_r5, List.forall_mem_append.mpr ⟨lw_r6, lw_r7⟩⟩⟩⟩⟩⟩
-- ===== end of PART A; then your names; then what follows =====
end
section
def RX0 : String := "ExamTour$Certificates"
def TX0 : u_T := fun k => match k with
  | 0 => ("ExamTour$Certificates", "count", "I", false)
  | 1 => ("ExamTour$Certificates", "entries", "[I", true)
  | 2 => ("ExamTour$Certificates", "days", "[I", true)
  | _ => ("ExamTour$Certificates", "results", "[I", true)
def tyX0 : Nat → FieldType := fun k => match k with
  | 0 => .int
  | 1 => .array .int
  | 2 => .array .int
  | _ => .array .int
abbrev wsX00 : List Cond := u_ws RX0 TX0 4
theorem nmX0 : ∀ a, a < 4 → ∀ b, b < 4 → a ≠ b → (TX0 a).2.1 ≠ (TX0 b).2.1 := by decide +kernel
theorem tyX0_ok : ∀ k, k < 4 → parseFieldDescriptor (TX0 k).2.2.1 = some (tyX0 k) := by decide +kernel
abbrev cX0_init : ByteArray := prog_2_method_1_code
def yX0_init : MethodName := ⟨RX0, "<init>", "()V"⟩
abbrev cX0_has : ByteArray := prog_2_method_2_code
def yX0_has : MethodName := ⟨RX0, "has", "(I)Z"⟩
abbrev cX0_anyUpTo : ByteArray := prog_2_method_3_code
def yX0_anyUpTo : MethodName := ⟨RX0, "anyUpTo", "(II)Z"⟩
abbrev cX0_give : ByteArray := prog_2_method_4_code
def yX0_give : MethodName := ⟨RX0, "give", "(III)I"⟩
def RX1 : String := "ExamTour$Circuit"
def TX1 : u_T := fun k => match k with
  | 0 => ("ExamTour$Circuit", "centres", "I", false)
  | 1 => ("ExamTour$Circuit", "examiners", "I", false)
  | 2 => ("ExamTour$Circuit", "sessions", "I", false)
  | 3 => ("ExamTour$Circuit", "homes", "[I", true)
  | 4 => ("ExamTour$Circuit", "instruments", "[I", true)
  | 5 => ("ExamTour$Circuit", "places", "[I", true)
  | 6 => ("ExamTour$Circuit", "days", "[I", true)
  | _ => ("ExamTour$Circuit", "ways", "[I", true)
def tyX1 : Nat → FieldType := fun k => match k with
  | 0 => .int
  | 1 => .int
  | 2 => .int
  | 3 => .array .int
  | 4 => .array .int
  | 5 => .array .int
  | 6 => .array .int
  | _ => .array .int
abbrev wsX10 : List Cond := u_ws RX1 TX1 8
theorem nmX1 : ∀ a, a < 8 → ∀ b, b < 8 → a ≠ b → (TX1 a).2.1 ≠ (TX1 b).2.1 := by decide +kernel
theorem tyX1_ok : ∀ k, k < 8 → parseFieldDescriptor (TX1 k).2.2.1 = some (tyX1 k) := by decide +kernel
abbrev cX1_init : ByteArray := prog_3_method_1_code
def yX1_init : MethodName := ⟨RX1, "<init>", "()V"⟩
abbrev cX1_hasCentre : ByteArray := prog_3_method_2_code
def yX1_hasCentre : MethodName := ⟨RX1, "hasCentre", "(I)Z"⟩
abbrev cX1_hasExaminer : ByteArray := prog_3_method_3_code
def yX1_hasExaminer : MethodName := ⟨RX1, "hasExaminer", "(I)Z"⟩
abbrev cX1_hasSession : ByteArray := prog_3_method_4_code
def yX1_hasSession : MethodName := ⟨RX1, "hasSession", "(I)Z"⟩
abbrev cX1_addCentre : ByteArray := prog_3_method_5_code
def yX1_addCentre : MethodName := ⟨RX1, "addCentre", "()I"⟩
abbrev cX1_addExaminer : ByteArray := prog_3_method_6_code
def yX1_addExaminer : MethodName := ⟨RX1, "addExaminer", "(II)I"⟩
abbrev cX1_addSession : ByteArray := prog_3_method_7_code
def yX1_addSession : MethodName := ⟨RX1, "addSession", "(II)I"⟩
abbrev cX1_setWay : ByteArray := prog_3_method_8_code
def yX1_setWay : MethodName := ⟨RX1, "setWay", "(III)V"⟩
abbrev cX1_minutesBetween : ByteArray := prog_3_method_9_code
def yX1_minutesBetween : MethodName := ⟨RX1, "minutesBetween", "(II)I"⟩
abbrev cX1_plays : ByteArray := prog_3_method_10_code
def yX1_plays : MethodName := ⟨RX1, "plays", "(II)Z"⟩
def RX2 : String := "ExamTour$Entries"
def TX2 : u_T := fun k => match k with
  | 0 => ("ExamTour$Entries", "count", "I", false)
  | 1 => ("ExamTour$Entries", "candidates", "[I", true)
  | 2 => ("ExamTour$Entries", "terms", "[I", true)
  | 3 => ("ExamTour$Entries", "grades", "[I", true)
  | 4 => ("ExamTour$Entries", "instruments", "[I", true)
  | 5 => ("ExamTour$Entries", "ages", "[I", true)
  | 6 => ("ExamTour$Entries", "teachers", "[I", true)
  | 7 => ("ExamTour$Entries", "sessions", "[I", true)
  | 8 => ("ExamTour$Entries", "pieceCounts", "[I", true)
  | _ => ("ExamTour$Entries", "pieces", "[J", true)
def tyX2 : Nat → FieldType := fun k => match k with
  | 0 => .int
  | 1 => .array .int
  | 2 => .array .int
  | 3 => .array .int
  | 4 => .array .int
  | 5 => .array .int
  | 6 => .array .int
  | 7 => .array .int
  | 8 => .array .int
  | _ => .array .long
abbrev wsX20 : List Cond := u_ws RX2 TX2 10
theorem nmX2 : ∀ a, a < 10 → ∀ b, b < 10 → a ≠ b → (TX2 a).2.1 ≠ (TX2 b).2.1 := by decide +kernel
theorem tyX2_ok : ∀ k, k < 10 → parseFieldDescriptor (TX2 k).2.2.1 = some (tyX2 k) := by decide +kernel
abbrev cX2_init : ByteArray := prog_4_method_1_code
def yX2_init : MethodName := ⟨RX2, "<init>", "()V"⟩
abbrev cX2_has : ByteArray := prog_4_method_2_code
def yX2_has : MethodName := ⟨RX2, "has", "(I)Z"⟩
abbrev cX2_add : ByteArray := prog_4_method_3_code
def yX2_add : MethodName := ⟨RX2, "add", "(IIIIII)I"⟩
abbrev cX2_addPiece : ByteArray := prog_4_method_4_code
def yX2_addPiece : MethodName := ⟨RX2, "addPiece", "(IJ)I"⟩
abbrev cX2_countListed : ByteArray := prog_4_method_5_code
def yX2_countListed : MethodName := ⟨RX2, "countListed", "(ILExamTour$Grade;I)I"⟩
abbrev cX2_countOwn : ByteArray := prog_4_method_6_code
def yX2_countOwn : MethodName := ⟨RX2, "countOwn", "(ILExamTour$Grade;)I"⟩
abbrev cX2_countIn : ByteArray := prog_4_method_7_code
def yX2_countIn : MethodName := ⟨RX2, "countIn", "(I)I"⟩
def RX3 : String := "ExamTour$Grade"
def TX3 : u_T := fun k => match k with
  | 0 => ("ExamTour$Grade", "told", "Z", false)
  | 1 => ("ExamTour$Grade", "lists", "I", false)
  | 2 => ("ExamTour$Grade", "parts", "I", false)
  | 3 => ("ExamTour$Grade", "musts", "I", false)
  | 4 => ("ExamTour$Grade", "minutes", "I", false)
  | 5 => ("ExamTour$Grade", "passStart", "I", false)
  | 6 => ("ExamTour$Grade", "meritStart", "I", false)
  | 7 => ("ExamTour$Grade", "listNames", "[J", true)
  | 8 => ("ExamTour$Grade", "listSizes", "[I", true)
  | 9 => ("ExamTour$Grade", "listed", "[J", true)
  | 10 => ("ExamTour$Grade", "partNames", "[J", true)
  | 11 => ("ExamTour$Grade", "most", "[I", true)
  | _ => ("ExamTour$Grade", "mustStarts", "[I", true)
def tyX3 : Nat → FieldType := fun k => match k with
  | 0 => .boolean
  | 1 => .int
  | 2 => .int
  | 3 => .int
  | 4 => .int
  | 5 => .int
  | 6 => .int
  | 7 => .array .long
  | 8 => .array .int
  | 9 => .array .long
  | 10 => .array .long
  | 11 => .array .int
  | _ => .array .int
abbrev wsX30 : List Cond := u_ws RX3 TX3 13
theorem nmX3 : ∀ a, a < 13 → ∀ b, b < 13 → a ≠ b → (TX3 a).2.1 ≠ (TX3 b).2.1 := by decide +kernel
theorem tyX3_ok : ∀ k, k < 13 → parseFieldDescriptor (TX3 k).2.2.1 = some (tyX3 k) := by decide +kernel
abbrev cX3_init : ByteArray := prog_5_method_1_code
def yX3_init : MethodName := ⟨RX3, "<init>", "()V"⟩
abbrev cX3_clear : ByteArray := prog_5_method_2_code
def yX3_clear : MethodName := ⟨RX3, "clear", "()V"⟩
abbrev cX3_minutesOrUsual : ByteArray := prog_5_method_3_code
def yX3_minutesOrUsual : MethodName := ⟨RX3, "minutesOrUsual", "()I"⟩
abbrev cX3_findList : ByteArray := prog_5_method_4_code
def yX3_findList : MethodName := ⟨RX3, "findList", "(J)I"⟩
abbrev cX3_findPart : ByteArray := prog_5_method_5_code
def yX3_findPart : MethodName := ⟨RX3, "findPart", "(J)I"⟩
abbrev cX3_addList : ByteArray := prog_5_method_6_code
def yX3_addList : MethodName := ⟨RX3, "addList", "(J)V"⟩
abbrev cX3_addListed : ByteArray := prog_5_method_7_code
def yX3_addListed : MethodName := ⟨RX3, "addListed", "(J)V"⟩
abbrev cX3_isLastListFull : ByteArray := prog_5_method_8_code
def yX3_isLastListFull : MethodName := ⟨RX3, "isLastListFull", "()Z"⟩
abbrev cX3_addPart : ByteArray := prog_5_method_9_code
def yX3_addPart : MethodName := ⟨RX3, "addPart", "(JI)V"⟩
abbrev cX3_addRule : ByteArray := prog_5_method_10_code
def yX3_addRule : MethodName := ⟨RX3, "addRule", "(II)V"⟩
abbrev cX3_isListed : ByteArray := prog_5_method_11_code
def yX3_isListed : MethodName := ⟨RX3, "isListed", "(IJ)Z"⟩
abbrev cX3_isListedAnywhere : ByteArray := prog_5_method_12_code
def yX3_isListedAnywhere : MethodName := ⟨RX3, "isListedAnywhere", "(J)Z"⟩
abbrev cX3_find : ByteArray := prog_5_method_13_code
def yX3_find : MethodName := ⟨RX3, "find", "([JIJ)I"⟩
def RX4 : String := "ExamTour$Judge"
def TX4 : u_T := fun k => match k with
  | 0 => ("ExamTour$Judge", "points", "[I", true)
  | 1 => ("ExamTour$Judge", "stack", "[I", true)
  | _ => ("ExamTour$Judge", "height", "I", false)
def tyX4 : Nat → FieldType := fun k => match k with
  | 0 => .array .int
  | 1 => .array .int
  | _ => .int
abbrev wsX40 : List Cond := u_ws RX4 TX4 3
theorem nmX4 : ∀ a, a < 3 → ∀ b, b < 3 → a ≠ b → (TX4 a).2.1 ≠ (TX4 b).2.1 := by decide +kernel
theorem tyX4_ok : ∀ k, k < 3 → parseFieldDescriptor (TX4 k).2.2.1 = some (tyX4 k) := by decide +kernel
abbrev cX4_init : ByteArray := prog_6_method_1_code
def yX4_init : MethodName := ⟨RX4, "<init>", "()V"⟩
abbrev cX4_work : ByteArray := prog_6_method_2_code
def yX4_work : MethodName := ⟨RX4, "work", "(LExamTour$Syllabus;LExamTour$Grade;LExamTour$Entries;II)I"⟩
abbrev cX4_markLeaf : ByteArray := prog_6_method_3_code
def yX4_markLeaf : MethodName := ⟨RX4, "markLeaf", "(IILExamTour$Grade;)I"⟩
abbrev cX4_pieceLeaf : ByteArray := prog_6_method_4_code
def yX4_pieceLeaf : MethodName := ⟨RX4, "pieceLeaf", "(IILExamTour$Grade;LExamTour$Entries;I)I"⟩
abbrev cX4_total : ByteArray := prog_6_method_5_code
def yX4_total : MethodName := ⟨RX4, "total", "(I)I"⟩
abbrev cX4_least : ByteArray := prog_6_method_6_code
def yX4_least : MethodName := ⟨RX4, "least", "(I)I"⟩
abbrev cX4_join : ByteArray := prog_6_method_7_code
def yX4_join : MethodName := ⟨RX4, "join", "(III)I"⟩
abbrev cX4_push : ByteArray := prog_6_method_8_code
def yX4_push : MethodName := ⟨RX4, "push", "(I)V"⟩
abbrev cX4_pop : ByteArray := prog_6_method_9_code
def yX4_pop : MethodName := ⟨RX4, "pop", "()I"⟩
def RX5 : String := "ExamTour$Ledger"
def TX5 : u_T := fun k => match k with
  | 0 => ("ExamTour$Ledger", "day", "I", false)
  | 1 => ("ExamTour$Ledger", "count", "I", false)
  | 2 => ("ExamTour$Ledger", "entries", "[I", true)
  | 3 => ("ExamTour$Ledger", "tellers", "[I", true)
  | 4 => ("ExamTour$Ledger", "parts", "[I", true)
  | 5 => ("ExamTour$Ledger", "points", "[I", true)
  | 6 => ("ExamTour$Ledger", "toldOn", "[I", true)
  | 7 => ("ExamTour$Ledger", "untoldOn", "[I", true)
  | _ => ("ExamTour$Ledger", "gaps", "[I", true)
def tyX5 : Nat → FieldType := fun k => match k with
  | 0 => .int
  | 1 => .int
  | 2 => .array .int
  | 3 => .array .int
  | 4 => .array .int
  | 5 => .array .int
  | 6 => .array .int
  | 7 => .array .int
  | _ => .array .int
abbrev wsX50 : List Cond := u_ws RX5 TX5 9
theorem nmX5 : ∀ a, a < 9 → ∀ b, b < 9 → a ≠ b → (TX5 a).2.1 ≠ (TX5 b).2.1 := by decide +kernel
theorem tyX5_ok : ∀ k, k < 9 → parseFieldDescriptor (TX5 k).2.2.1 = some (tyX5 k) := by decide +kernel
abbrev cX5_init : ByteArray := prog_7_method_1_code
def yX5_init : MethodName := ⟨RX5, "<init>", "()V"⟩
abbrev cX5_tell : ByteArray := prog_7_method_2_code
def yX5_tell : MethodName := ⟨RX5, "tell", "(IIII)I"⟩
abbrev cX5_takeBack : ByteArray := prog_7_method_3_code
def yX5_takeBack : MethodName := ⟨RX5, "takeBack", "(I)Z"⟩
abbrev cX5_stands : ByteArray := prog_7_method_4_code
def yX5_stands : MethodName := ⟨RX5, "stands", "(I)Z"⟩
abbrev cX5_isKnown : ByteArray := prog_7_method_5_code
def yX5_isKnown : MethodName := ⟨RX5, "isKnown", "(II)Z"⟩
abbrev cX5_mainOf : ByteArray := prog_7_method_6_code
def yX5_mainOf : MethodName := ⟨RX5, "mainOf", "(II)I"⟩
abbrev cX5_knownPoints : ByteArray := prog_7_method_7_code
def yX5_knownPoints : MethodName := ⟨RX5, "knownPoints", "(III)I"⟩
abbrev cX5_lastOf : ByteArray := prog_7_method_8_code
def yX5_lastOf : MethodName := ⟨RX5, "lastOf", "(IIII)I"⟩
abbrev cX5_hardnessOf : ByteArray := prog_7_method_9_code
def yX5_hardnessOf : MethodName := ⟨RX5, "hardnessOf", "(II)I"⟩
abbrev cX5_insertGap : ByteArray := prog_7_method_10_code
def yX5_insertGap : MethodName := ⟨RX5, "insertGap", "(II)I"⟩
def RX6 : String := "ExamTour$Parser"
def TX6 : u_T := fun k => match k with
  | 0 => ("ExamTour$Parser", "tape", "LExamTour$Tokens;", true)
  | 1 => ("ExamTour$Parser", "fault", "I", false)
  | 2 => ("ExamTour$Parser", "place", "I", false)
  | 3 => ("ExamTour$Parser", "text", "LExamTour$Syllabus;", false)
  | 4 => ("ExamTour$Parser", "inMust", "Z", false)
  | _ => ("ExamTour$Parser", "leaves", "I", false)
def tyX6 : Nat → FieldType := fun k => match k with
  | 0 => .object "ExamTour$Tokens"
  | 1 => .int
  | 2 => .int
  | 3 => .object "ExamTour$Syllabus"
  | 4 => .boolean
  | _ => .int
abbrev wsX60 : List Cond := u_ws RX6 TX6 6
theorem nmX6 : ∀ a, a < 6 → ∀ b, b < 6 → a ≠ b → (TX6 a).2.1 ≠ (TX6 b).2.1 := by decide +kernel
theorem tyX6_ok : ∀ k, k < 6 → parseFieldDescriptor (TX6 k).2.2.1 = some (tyX6 k) := by decide +kernel
abbrev cX6_init : ByteArray := prog_8_method_1_code
def yX6_init : MethodName := ⟨RX6, "<init>", "()V"⟩
abbrev cX6_read : ByteArray := prog_8_method_2_code
def yX6_read : MethodName := ⟨RX6, "read", "()V"⟩
abbrev cX6_exchange : ByteArray := prog_8_method_3_code
def yX6_exchange : MethodName := ⟨RX6, "exchange", "(LExamTour$Syllabus;)LExamTour$Syllabus;"⟩
abbrev cX6_openGrade : ByteArray := prog_8_method_4_code
def yX6_openGrade : MethodName := ⟨RX6, "openGrade", "()LExamTour$Grade;"⟩
abbrev cX6_readItem : ByteArray := prog_8_method_5_code
def yX6_readItem : MethodName := ⟨RX6, "readItem", "(LExamTour$Grade;)V"⟩
abbrev cX6_cannotStartItem : ByteArray := prog_8_method_6_code
def yX6_cannotStartItem : MethodName := ⟨RX6, "cannotStartItem", "(LExamTour$Grade;)Z"⟩
abbrev cX6_readList : ByteArray := prog_8_method_7_code
def yX6_readList : MethodName := ⟨RX6, "readList", "(LExamTour$Grade;)V"⟩
abbrev cX6_readPart : ByteArray := prog_8_method_8_code
def yX6_readPart : MethodName := ⟨RX6, "readPart", "(LExamTour$Grade;)V"⟩
abbrev cX6_readE : ByteArray := prog_8_method_9_code
def yX6_readE : MethodName := ⟨RX6, "readE", "(LExamTour$Grade;I)V"⟩
abbrev cX6_readBoth : ByteArray := prog_8_method_10_code
def yX6_readBoth : MethodName := ⟨RX6, "readBoth", "(LExamTour$Grade;I)V"⟩
abbrev cX6_readOne : ByteArray := prog_8_method_11_code
def yX6_readOne : MethodName := ⟨RX6, "readOne", "(LExamTour$Grade;I)V"⟩
abbrev cX6_readCompared : ByteArray := prog_8_method_12_code
def yX6_readCompared : MethodName := ⟨RX6, "readCompared", "(LExamTour$Grade;I)V"⟩
abbrev cX6_readSum : ByteArray := prog_8_method_13_code
def yX6_readSum : MethodName := ⟨RX6, "readSum", "(LExamTour$Grade;I)V"⟩
abbrev cX6_readLeaf : ByteArray := prog_8_method_14_code
def yX6_readLeaf : MethodName := ⟨RX6, "readLeaf", "(LExamTour$Grade;I)V"⟩
abbrev cX6_isLeaf : ByteArray := prog_8_method_15_code
def yX6_isLeaf : MethodName := ⟨RX6, "isLeaf", "(I)Z"⟩
abbrev cX6_addMeaning : ByteArray := prog_8_method_16_code
def yX6_addMeaning : MethodName := ⟨RX6, "addMeaning", "(LExamTour$Grade;)V"⟩
abbrev cX6_addNamed : ByteArray := prog_8_method_17_code
def yX6_addNamed : MethodName := ⟨RX6, "addNamed", "(II)V"⟩
abbrev cX6_take : ByteArray := prog_8_method_18_code
def yX6_take : MethodName := ⟨RX6, "take", "(I)V"⟩
abbrev cX6_takeNumber : ByteArray := prog_8_method_19_code
def yX6_takeNumber : MethodName := ⟨RX6, "takeNumber", "(II)I"⟩
abbrev cX6_takeNewName : ByteArray := prog_8_method_20_code
def yX6_takeNewName : MethodName := ⟨RX6, "takeNewName", "(LExamTour$Grade;)J"⟩
abbrev cX6_takeListed : ByteArray := prog_8_method_21_code
def yX6_takeListed : MethodName := ⟨RX6, "takeListed", "(LExamTour$Grade;)V"⟩
abbrev cX6_refuse : ByteArray := prog_8_method_22_code
def yX6_refuse : MethodName := ⟨RX6, "refuse", "()V"⟩
abbrev cX6_fail : ByteArray := prog_8_method_23_code
def yX6_fail : MethodName := ⟨RX6, "fail", "(II)V"⟩
def RX7 : String := "ExamTour$Planner"
def TX7 : u_T := fun k => match k with
  | 0 => ("ExamTour$Planner", "chosen", "[I", true)
  | 1 => ("ExamTour$Planner", "allowed", "[Z", true)
  | 2 => ("ExamTour$Planner", "order", "[I", true)
  | 3 => ("ExamTour$Planner", "count", "I", false)
  | 4 => ("ExamTour$Planner", "countBefore", "I", false)
  | 5 => ("ExamTour$Planner", "where", "[I", false)
  | 6 => ("ExamTour$Planner", "whereBefore", "[I", false)
  | 7 => ("ExamTour$Planner", "worth", "[J", false)
  | _ => ("ExamTour$Planner", "worthBefore", "[J", false)
def tyX7 : Nat → FieldType := fun k => match k with
  | 0 => .array .int
  | 1 => .array .boolean
  | 2 => .array .int
  | 3 => .int
  | 4 => .int
  | 5 => .array .int
  | 6 => .array .int
  | 7 => .array .long
  | _ => .array .long
abbrev wsX70 : List Cond := u_ws RX7 TX7 9
theorem nmX7 : ∀ a, a < 9 → ∀ b, b < 9 → a ≠ b → (TX7 a).2.1 ≠ (TX7 b).2.1 := by decide +kernel
theorem tyX7_ok : ∀ k, k < 9 → parseFieldDescriptor (TX7 k).2.2.1 = some (tyX7 k) := by decide +kernel
abbrev cX7_init : ByteArray := prog_9_method_1_code
def yX7_init : MethodName := ⟨RX7, "<init>", "()V"⟩
abbrev cX7_allow : ByteArray := prog_9_method_2_code
def yX7_allow : MethodName := ⟨RX7, "allow", "(IIZ)V"⟩
abbrev cX7_plan : ByteArray := prog_9_method_3_code
def yX7_plan : MethodName := ⟨RX7, "plan", "(LExamTour$Circuit;)I"⟩
abbrev cX7_orderByDay : ByteArray := prog_9_method_4_code
def yX7_orderByDay : MethodName := ⟨RX7, "orderByDay", "(LExamTour$Circuit;)V"⟩
abbrev cX7_startDay : ByteArray := prog_9_method_5_code
def yX7_startDay : MethodName := ⟨RX7, "startDay", "(Z)V"⟩
abbrev cX7_sendAllHome : ByteArray := prog_9_method_6_code
def yX7_sendAllHome : MethodName := ⟨RX7, "sendAllHome", "()V"⟩
abbrev cX7_giveDay : ByteArray := prog_9_method_7_code
def yX7_giveDay : MethodName := ⟨RX7, "giveDay", "(LExamTour$Circuit;IIIJ)V"⟩
abbrev cX7_addState : ByteArray := prog_9_method_8_code
def yX7_addState : MethodName := ⟨RX7, "addState", "(LExamTour$Circuit;IJ)V"⟩
abbrev cX7_placeOf : ByteArray := prog_9_method_9_code
def yX7_placeOf : MethodName := ⟨RX7, "placeOf", "(II)I"⟩
abbrev cX7_costOf : ByteArray := prog_9_method_10_code
def yX7_costOf : MethodName := ⟨RX7, "costOf", "(LExamTour$Circuit;II)J"⟩
abbrev cX7_savedBetween : ByteArray := prog_9_method_11_code
def yX7_savedBetween : MethodName := ⟨RX7, "savedBetween", "(LExamTour$Circuit;II)J"⟩
abbrev cX7_choose : ByteArray := prog_9_method_12_code
def yX7_choose : MethodName := ⟨RX7, "choose", "(IJ)V"⟩
def RX8 : String := "ExamTour$Syllabus"
def TX8 : u_T := fun k => match k with
  | 0 => ("ExamTour$Syllabus", "grades", "[LExamTour$Grade;", true)
  | 1 => ("ExamTour$Syllabus", "cells", "[I", true)
  | 2 => ("ExamTour$Syllabus", "told", "I", false)
  | _ => ("ExamTour$Syllabus", "used", "I", false)
def tyX8 : Nat → FieldType := fun k => match k with
  | 0 => .array (.object "ExamTour$Grade")
  | 1 => .array .int
  | 2 => .int
  | _ => .int
abbrev wsX80 : List Cond := u_ws RX8 TX8 4
theorem nmX8 : ∀ a, a < 4 → ∀ b, b < 4 → a ≠ b → (TX8 a).2.1 ≠ (TX8 b).2.1 := by decide +kernel
theorem tyX8_ok : ∀ k, k < 4 → parseFieldDescriptor (TX8 k).2.2.1 = some (tyX8 k) := by decide +kernel
abbrev cX8_init : ByteArray := prog_10_method_1_code
def yX8_init : MethodName := ⟨RX8, "<init>", "()V"⟩
abbrev cX8_clear : ByteArray := prog_10_method_2_code
def yX8_clear : MethodName := ⟨RX8, "clear", "()V"⟩
abbrev cX8_open : ByteArray := prog_10_method_3_code
def yX8_open : MethodName := ⟨RX8, "open", "(I)LExamTour$Grade;"⟩
abbrev cX8_find : ByteArray := prog_10_method_4_code
def yX8_find : MethodName := ⟨RX8, "find", "(I)LExamTour$Grade;"⟩
abbrev cX8_addCell : ByteArray := prog_10_method_5_code
def yX8_addCell : MethodName := ⟨RX8, "addCell", "(II)V"⟩
def RX9 : String := "ExamTour$Tokens"
def TX9 : u_T := fun k => match k with
  | 0 => ("ExamTour$Tokens", "bytes", "[B", true)
  | 1 => ("ExamTour$Tokens", "length", "I", false)
  | 2 => ("ExamTour$Tokens", "kind", "I", false)
  | 3 => ("ExamTour$Tokens", "place", "I", false)
  | 4 => ("ExamTour$Tokens", "number", "I", false)
  | 5 => ("ExamTour$Tokens", "word", "J", false)
  | _ => ("ExamTour$Tokens", "at", "I", false)
def tyX9 : Nat → FieldType := fun k => match k with
  | 0 => .array .byte
  | 1 => .int
  | 2 => .int
  | 3 => .int
  | 4 => .int
  | 5 => .long
  | _ => .int
abbrev wsX90 : List Cond := u_ws RX9 TX9 7
theorem nmX9 : ∀ a, a < 7 → ∀ b, b < 7 → a ≠ b → (TX9 a).2.1 ≠ (TX9 b).2.1 := by decide +kernel
theorem tyX9_ok : ∀ k, k < 7 → parseFieldDescriptor (TX9 k).2.2.1 = some (tyX9 k) := by decide +kernel
abbrev cX9_init : ByteArray := prog_11_method_1_code
def yX9_init : MethodName := ⟨RX9, "<init>", "()V"⟩
abbrev cX9_append : ByteArray := prog_11_method_2_code
def yX9_append : MethodName := ⟨RX9, "append", "(I)V"⟩
abbrev cX9_rewind : ByteArray := prog_11_method_3_code
def yX9_rewind : MethodName := ⟨RX9, "rewind", "()V"⟩
abbrev cX9_next : ByteArray := prog_11_method_4_code
def yX9_next : MethodName := ⟨RX9, "next", "()V"⟩
abbrev cX9_readWord : ByteArray := prog_11_method_5_code
def yX9_readWord : MethodName := ⟨RX9, "readWord", "()V"⟩
abbrev cX9_readNumber : ByteArray := prog_11_method_6_code
def yX9_readNumber : MethodName := ⟨RX9, "readNumber", "()V"⟩
abbrev cX9_byteAt : ByteArray := prog_11_method_7_code
def yX9_byteAt : MethodName := ⟨RX9, "byteAt", "(I)I"⟩
abbrev cX9_kindOf : ByteArray := prog_11_method_8_code
def yX9_kindOf : MethodName := ⟨RX9, "kindOf", "(J)I"⟩
abbrev cX9_isWord : ByteArray := prog_11_method_9_code
def yX9_isWord : MethodName := ⟨RX9, "isWord", "(J)Z"⟩
abbrev cX9_isBlank : ByteArray := prog_11_method_10_code
def yX9_isBlank : MethodName := ⟨RX9, "isBlank", "(I)Z"⟩
abbrev cX9_isLetter : ByteArray := prog_11_method_11_code
def yX9_isLetter : MethodName := ⟨RX9, "isLetter", "(I)Z"⟩
abbrev cX9_isDigit : ByteArray := prog_11_method_12_code
def yX9_isDigit : MethodName := ⟨RX9, "isDigit", "(I)Z"⟩
abbrev cX9_isLetterOrDigit : ByteArray := prog_11_method_13_code
def yX9_isLetterOrDigit : MethodName := ⟨RX9, "isLetterOrDigit", "(I)Z"⟩
abbrev cX9_isSign : ByteArray := prog_11_method_14_code
def yX9_isSign : MethodName := ⟨RX9, "isSign", "(I)Z"⟩
def RX10 : String := "ExamTour"
def TX10 : u_T := fun k => match k with
  | 0 => ("ExamTour", "parser", "LExamTour$Parser;", true)
  | 1 => ("ExamTour", "texts", "[LExamTour$Syllabus;", true)
  | 2 => ("ExamTour", "bench", "LExamTour$Judge;", true)
  | 3 => ("ExamTour", "entries", "LExamTour$Entries;", true)
  | 4 => ("ExamTour", "circuit", "LExamTour$Circuit;", true)
  | 5 => ("ExamTour", "planner", "LExamTour$Planner;", true)
  | 6 => ("ExamTour", "ledger", "LExamTour$Ledger;", true)
  | _ => ("ExamTour", "certificates", "LExamTour$Certificates;", true)
def tyX10 : Nat → FieldType := fun k => match k with
  | 0 => .object "ExamTour$Parser"
  | 1 => .array (.object "ExamTour$Syllabus")
  | 2 => .object "ExamTour$Judge"
  | 3 => .object "ExamTour$Entries"
  | 4 => .object "ExamTour$Circuit"
  | 5 => .object "ExamTour$Planner"
  | 6 => .object "ExamTour$Ledger"
  | _ => .object "ExamTour$Certificates"
abbrev wsX100 : List Cond := u_ws RX10 TX10 8
theorem nmX10 : ∀ a, a < 8 → ∀ b, b < 8 → a ≠ b → (TX10 a).2.1 ≠ (TX10 b).2.1 := by decide +kernel
theorem tyX10_ok : ∀ k, k < 8 → parseFieldDescriptor (TX10 k).2.2.1 = some (tyX10 k) := by decide +kernel
abbrev cX10_init : ByteArray := prog_1_method_1_code
def yX10_init : MethodName := ⟨RX10, "<init>", "()V"⟩
abbrev cX10_feed : ByteArray := prog_1_method_2_code
def yX10_feed : MethodName := ⟨RX10, "feed", "(IIIII)I"⟩
abbrev cX10_end : ByteArray := prog_1_method_3_code
def yX10_end : MethodName := ⟨RX10, "end", "(I)I"⟩
abbrev cX10_syllabus : ByteArray := prog_1_method_4_code
def yX10_syllabus : MethodName := ⟨RX10, "syllabus", "(I)I"⟩
abbrev cX10_fault : ByteArray := prog_1_method_5_code
def yX10_fault : MethodName := ⟨RX10, "fault", "(I)I"⟩
abbrev cX10_grade : ByteArray := prog_1_method_6_code
def yX10_grade : MethodName := ⟨RX10, "grade", "(III)I"⟩
abbrev cX10_entry : ByteArray := prog_1_method_7_code
def yX10_entry : MethodName := ⟨RX10, "entry", "(IIIIII)I"⟩
abbrev cX10_piece : ByteArray := prog_1_method_8_code
def yX10_piece : MethodName := ⟨RX10, "piece", "(IJ)I"⟩
abbrev cX10_judge : ByteArray := prog_1_method_9_code
def yX10_judge : MethodName := ⟨RX10, "judge", "(I)I"⟩
abbrev cX10_centre : ByteArray := prog_1_method_10_code
def yX10_centre : MethodName := ⟨RX10, "centre", "()I"⟩
abbrev cX10_way : ByteArray := prog_1_method_11_code
def yX10_way : MethodName := ⟨RX10, "way", "(III)Z"⟩
abbrev cX10_examiner : ByteArray := prog_1_method_12_code
def yX10_examiner : MethodName := ⟨RX10, "examiner", "(II)I"⟩
abbrev cX10_session : ByteArray := prog_1_method_13_code
def yX10_session : MethodName := ⟨RX10, "session", "(II)I"⟩
abbrev cX10_put : ByteArray := prog_1_method_14_code
def yX10_put : MethodName := ⟨RX10, "put", "(II)Z"⟩
abbrev cX10_of : ByteArray := prog_1_method_15_code
def yX10_of : MethodName := ⟨RX10, "of", "(II)I"⟩
abbrev cX10_may : ByteArray := prog_1_method_16_code
def yX10_may : MethodName := ⟨RX10, "may", "(II)I"⟩
abbrev cX10_tour : ByteArray := prog_1_method_17_code
def yX10_tour : MethodName := ⟨RX10, "tour", "()I"⟩
abbrev cX10_toured : ByteArray := prog_1_method_18_code
def yX10_toured : MethodName := ⟨RX10, "toured", "(I)I"⟩
abbrev cX10_stuck : ByteArray := prog_1_method_19_code
def yX10_stuck : MethodName := ⟨RX10, "stuck", "()I"⟩
abbrev cX10_later : ByteArray := prog_1_method_20_code
def yX10_later : MethodName := ⟨RX10, "later", "(I)I"⟩
abbrev cX10_mark : ByteArray := prog_1_method_21_code
def yX10_mark : MethodName := ⟨RX10, "mark", "(IIII)I"⟩
abbrev cX10_appeal : ByteArray := prog_1_method_22_code
def yX10_appeal : MethodName := ⟨RX10, "appeal", "(III)I"⟩
abbrev cX10_untell : ByteArray := prog_1_method_23_code
def yX10_untell : MethodName := ⟨RX10, "untell", "(I)Z"⟩
abbrev cX10_known : ByteArray := prog_1_method_24_code
def yX10_known : MethodName := ⟨RX10, "known", "(III)I"⟩
abbrev cX10_main : ByteArray := prog_1_method_25_code
def yX10_main : MethodName := ⟨RX10, "main", "(II)I"⟩
abbrev cX10_result : ByteArray := prog_1_method_26_code
def yX10_result : MethodName := ⟨RX10, "result", "(II)I"⟩
abbrev cX10_hardness : ByteArray := prog_1_method_27_code
def yX10_hardness : MethodName := ⟨RX10, "hardness", "(I)I"⟩
abbrev cX10_certify : ByteArray := prog_1_method_28_code
def yX10_certify : MethodName := ⟨RX10, "certify", "(I)I"⟩
abbrev cX10_certificate : ByteArray := prog_1_method_29_code
def yX10_certificate : MethodName := ⟨RX10, "certificate", "(II)I"⟩
abbrev cX10_holds : ByteArray := prog_1_method_30_code
def yX10_holds : MethodName := ⟨RX10, "holds", "(II)I"⟩
abbrev cX10_about : ByteArray := prog_1_method_31_code
def yX10_about : MethodName := ⟨RX10, "about", "(I)I"⟩
abbrev cX10_isWithin : ByteArray := prog_1_method_32_code
def yX10_isWithin : MethodName := ⟨RX10, "isWithin", "(III)Z"⟩
abbrev cX10_isTerm : ByteArray := prog_1_method_33_code
def yX10_isTerm : MethodName := ⟨RX10, "isTerm", "(I)Z"⟩
abbrev cX10_gradesOf : ByteArray := prog_1_method_34_code
def yX10_gradesOf : MethodName := ⟨RX10, "gradesOf", "(I)I"⟩
abbrev cX10_findGrade : ByteArray := prog_1_method_35_code
def yX10_findGrade : MethodName := ⟨RX10, "findGrade", "(II)LExamTour$Grade;"⟩
abbrev cX10_gradeOf : ByteArray := prog_1_method_36_code
def yX10_gradeOf : MethodName := ⟨RX10, "gradeOf", "(I)LExamTour$Grade;"⟩
abbrev cX10_firstUnmet : ByteArray := prog_1_method_37_code
def yX10_firstUnmet : MethodName := ⟨RX10, "firstUnmet", "(I)I"⟩
abbrev cX10_resultOf : ByteArray := prog_1_method_38_code
def yX10_resultOf : MethodName := ⟨RX10, "resultOf", "(II)I"⟩
abbrev cX10_canBeMarked : ByteArray := prog_1_method_39_code
def yX10_canBeMarked : MethodName := ⟨RX10, "canBeMarked", "(III)Z"⟩
abbrev cX10_minutesOf : ByteArray := prog_1_method_40_code
def yX10_minutesOf : MethodName := ⟨RX10, "minutesOf", "(I)I"⟩
abbrev cX10_minutesWith : ByteArray := prog_1_method_41_code
def yX10_minutesWith : MethodName := ⟨RX10, "minutesWith", "(II)I"⟩
abbrev cX10_canBeTaken : ByteArray := prog_1_method_42_code
def yX10_canBeTaken : MethodName := ⟨RX10, "canBeTaken", "(I)Z"⟩
abbrev cX10_mayTake : ByteArray := prog_1_method_43_code
def yX10_mayTake : MethodName := ⟨RX10, "mayTake", "(II)Z"⟩
abbrev cX10_mayHear : ByteArray := prog_1_method_44_code
def yX10_mayHear : MethodName := ⟨RX10, "mayHear", "(II)Z"⟩
abbrev cX10_heardElsewhere : ByteArray := prog_1_method_45_code
def yX10_heardElsewhere : MethodName := ⟨RX10, "heardElsewhere", "(II)Z"⟩
def RX11 : String := "ExamTourModel"
def TX11 : u_T := fun k => match k with
  | 0 => ("ExamTourModel", "tape", "[B", true)
  | 1 => ("ExamTourModel", "text", "[B", true)
  | 2 => ("ExamTourModel", "taped", "I", false)
  | 3 => ("ExamTourModel", "size", "I", false)
  | 4 => ("ExamTourModel", "faultKind", "I", false)
  | 5 => ("ExamTourModel", "faultPlace", "I", false)
  | 6 => ("ExamTourModel", "at", "I", false)
  | 7 => ("ExamTourModel", "end", "I", false)
  | 8 => ("ExamTourModel", "token", "I", false)
  | 9 => ("ExamTourModel", "number", "I", false)
  | 10 => ("ExamTourModel", "name", "J", false)
  | 11 => ("ExamTourModel", "bankOf", "[I", true)
  | 12 => ("ExamTourModel", "spare", "I", false)
  | 13 => ("ExamTourModel", "leaves", "I", false)
  | 14 => ("ExamTourModel", "codes", "I", false)
  | 15 => ("ExamTourModel", "hasText", "[Z", true)
  | 16 => ("ExamTourModel", "isTold", "[Z", true)
  | 17 => ("ExamTourModel", "lists", "[I", true)
  | 18 => ("ExamTourModel", "pieces", "[I", true)
  | 19 => ("ExamTourModel", "parts", "[I", true)
  | 20 => ("ExamTourModel", "most", "[I", true)
  | 21 => ("ExamTourModel", "musts", "[I", true)
  | 22 => ("ExamTourModel", "minutes", "[I", true)
  | 23 => ("ExamTourModel", "mustFrom", "[I", true)
  | 24 => ("ExamTourModel", "mustTo", "[I", true)
  | 25 => ("ExamTourModel", "passFrom", "[I", true)
  | 26 => ("ExamTourModel", "passTo", "[I", true)
  | 27 => ("ExamTourModel", "meritFrom", "[I", true)
  | 28 => ("ExamTourModel", "meritTo", "[I", true)
  | 29 => ("ExamTourModel", "code", "[I", true)
  | 30 => ("ExamTourModel", "codeNumber", "[I", true)
  | 31 => ("ExamTourModel", "gradeMany", "[I", true)
  | 32 => ("ExamTourModel", "listName", "[J", true)
  | 33 => ("ExamTourModel", "pieceName", "[J", true)
  | 34 => ("ExamTourModel", "partName", "[J", true)
  | 35 => ("ExamTourModel", "eWhat", "[I", true)
  | 36 => ("ExamTourModel", "eSign", "[I", true)
  | 37 => ("ExamTourModel", "piled", "I", false)
  | 38 => ("ExamTourModel", "deep", "I", false)
  | 39 => ("ExamTourModel", "nCandidate", "[I", true)
  | 40 => ("ExamTourModel", "nTerm", "[I", true)
  | 41 => ("ExamTourModel", "nGrade", "[I", true)
  | 42 => ("ExamTourModel", "nInstrument", "[I", true)
  | 43 => ("ExamTourModel", "nAge", "[I", true)
  | 44 => ("ExamTourModel", "nTeacher", "[I", true)
  | 45 => ("ExamTourModel", "nPieces", "[I", true)
  | 46 => ("ExamTourModel", "nSession", "[I", true)
  | 47 => ("ExamTourModel", "nPiece", "[J", true)
  | 48 => ("ExamTourModel", "entries", "I", false)
  | 49 => ("ExamTourModel", "values", "[I", true)
  | 50 => ("ExamTourModel", "marksNow", "[I", true)
  | 51 => ("ExamTourModel", "ways", "[I", true)
  | 52 => ("ExamTourModel", "home", "[I", true)
  | 53 => ("ExamTourModel", "instruments", "[I", true)
  | 54 => ("ExamTourModel", "sCentre", "[I", true)
  | 55 => ("ExamTourModel", "sDay", "[I", true)
  | 56 => ("ExamTourModel", "centres", "I", false)
  | 57 => ("ExamTourModel", "examiners", "I", false)
  | 58 => ("ExamTourModel", "sessions", "I", false)
  | 59 => ("ExamTourModel", "costs", "[I", true)
  | 60 => ("ExamTourModel", "least", "[I", true)
  | 61 => ("ExamTourModel", "fixed", "[I", true)
  | 62 => ("ExamTourModel", "toured", "[I", true)
  | 63 => ("ExamTourModel", "touredMany", "I", false)
  | 64 => ("ExamTourModel", "mEntry", "[I", true)
  | 65 => ("ExamTourModel", "mBy", "[I", true)
  | 66 => ("ExamTourModel", "mPart", "[I", true)
  | 67 => ("ExamTourModel", "mMarks", "[I", true)
  | 68 => ("ExamTourModel", "mTold", "[I", true)
  | 69 => ("ExamTourModel", "mUntold", "[I", true)
  | 70 => ("ExamTourModel", "marks", "I", false)
  | 71 => ("ExamTourModel", "day", "I", false)
  | 72 => ("ExamTourModel", "apart", "[I", true)
  | 73 => ("ExamTourModel", "cEntry", "[I", true)
  | 74 => ("ExamTourModel", "cDay", "[I", true)
  | 75 => ("ExamTourModel", "cResult", "[I", true)
  | _ => ("ExamTourModel", "certificates", "I", false)
def tyX11 : Nat → FieldType := fun k => match k with
  | 0 => .array .byte
  | 1 => .array .byte
  | 2 => .int
  | 3 => .int
  | 4 => .int
  | 5 => .int
  | 6 => .int
  | 7 => .int
  | 8 => .int
  | 9 => .int
  | 10 => .long
  | 11 => .array .int
  | 12 => .int
  | 13 => .int
  | 14 => .int
  | 15 => .array .boolean
  | 16 => .array .boolean
  | 17 => .array .int
  | 18 => .array .int
  | 19 => .array .int
  | 20 => .array .int
  | 21 => .array .int
  | 22 => .array .int
  | 23 => .array .int
  | 24 => .array .int
  | 25 => .array .int
  | 26 => .array .int
  | 27 => .array .int
  | 28 => .array .int
  | 29 => .array .int
  | 30 => .array .int
  | 31 => .array .int
  | 32 => .array .long
  | 33 => .array .long
  | 34 => .array .long
  | 35 => .array .int
  | 36 => .array .int
  | 37 => .int
  | 38 => .int
  | 39 => .array .int
  | 40 => .array .int
  | 41 => .array .int
  | 42 => .array .int
  | 43 => .array .int
  | 44 => .array .int
  | 45 => .array .int
  | 46 => .array .int
  | 47 => .array .long
  | 48 => .int
  | 49 => .array .int
  | 50 => .array .int
  | 51 => .array .int
  | 52 => .array .int
  | 53 => .array .int
  | 54 => .array .int
  | 55 => .array .int
  | 56 => .int
  | 57 => .int
  | 58 => .int
  | 59 => .array .int
  | 60 => .array .int
  | 61 => .array .int
  | 62 => .array .int
  | 63 => .int
  | 64 => .array .int
  | 65 => .array .int
  | 66 => .array .int
  | 67 => .array .int
  | 68 => .array .int
  | 69 => .array .int
  | 70 => .int
  | 71 => .int
  | 72 => .array .int
  | 73 => .array .int
  | 74 => .array .int
  | 75 => .array .int
  | _ => .int
abbrev wsX110 : List Cond := u_ws RX11 TX11 77
theorem nmX11 : ∀ a, a < 77 → ∀ b, b < 77 → a ≠ b → (TX11 a).2.1 ≠ (TX11 b).2.1 := by decide +kernel
theorem tyX11_ok : ∀ k, k < 77 → parseFieldDescriptor (TX11 k).2.2.1 = some (tyX11 k) := by decide +kernel
abbrev cX11_sign : ByteArray := prog_13_method_1_code
def yX11_sign : MethodName := ⟨RX11, "sign", "(I)I"⟩
abbrev cX11_isLetter : ByteArray := prog_13_method_2_code
def yX11_isLetter : MethodName := ⟨RX11, "isLetter", "(I)Z"⟩
abbrev cX11_isDigit : ByteArray := prog_13_method_3_code
def yX11_isDigit : MethodName := ⟨RX11, "isDigit", "(I)Z"⟩
abbrev cX11_fails : ByteArray := prog_13_method_4_code
def yX11_fails : MethodName := ⟨RX11, "fails", "(II)V"⟩
abbrev cX11_isGood : ByteArray := prog_13_method_5_code
def yX11_isGood : MethodName := ⟨RX11, "isGood", "()Z"⟩
abbrev cX11_isMeant : ByteArray := prog_13_method_6_code
def yX11_isMeant : MethodName := ⟨RX11, "isMeant", "(J)Z"⟩
abbrev cX11_isKept : ByteArray := prog_13_method_7_code
def yX11_isKept : MethodName := ⟨RX11, "isKept", "(J)Z"⟩
abbrev cX11_next : ByteArray := prog_13_method_8_code
def yX11_next : MethodName := ⟨RX11, "next", "()V"⟩
abbrev cX11_is : ByteArray := prog_13_method_9_code
def yX11_is : MethodName := ⟨RX11, "is", "(I)Z"⟩
abbrev cX11_isWord : ByteArray := prog_13_method_10_code
def yX11_isWord : MethodName := ⟨RX11, "isWord", "(J)Z"⟩
abbrev cX11_wrong : ByteArray := prog_13_method_11_code
def yX11_wrong : MethodName := ⟨RX11, "wrong", "()V"⟩
abbrev cX11_must : ByteArray := prog_13_method_12_code
def yX11_must : MethodName := ⟨RX11, "must", "(I)V"⟩
abbrev cX11_numberOf : ByteArray := prog_13_method_13_code
def yX11_numberOf : MethodName := ⟨RX11, "numberOf", "(II)I"⟩
abbrev cX11_init : ByteArray := prog_13_method_14_code
def yX11_init : MethodName := ⟨RX11, "<init>", "()V"⟩
abbrev cX11_listOf : ByteArray := prog_13_method_15_code
def yX11_listOf : MethodName := ⟨RX11, "listOf", "(IJ)I"⟩
abbrev cX11_partOf : ByteArray := prog_13_method_16_code
def yX11_partOf : MethodName := ⟨RX11, "partOf", "(IJ)I"⟩
abbrev cX11_hasPiece : ByteArray := prog_13_method_17_code
def yX11_hasPiece : MethodName := ⟨RX11, "hasPiece", "(IJ)Z"⟩
abbrev cX11_syllabus : ByteArray := prog_13_method_18_code
def yX11_syllabus : MethodName := ⟨RX11, "syllabus", "(I)I"⟩
abbrev cX11_readGrade : ByteArray := prog_13_method_19_code
def yX11_readGrade : MethodName := ⟨RX11, "readGrade", "()V"⟩
abbrev cX11_readItem : ByteArray := prog_13_method_20_code
def yX11_readItem : MethodName := ⟨RX11, "readItem", "(I)V"⟩
abbrev cX11_canName : ByteArray := prog_13_method_21_code
def yX11_canName : MethodName := ⟨RX11, "canName", "(I)Z"⟩
abbrev cX11_readList : ByteArray := prog_13_method_22_code
def yX11_readList : MethodName := ⟨RX11, "readList", "(I)V"⟩
abbrev cX11_readPart : ByteArray := prog_13_method_23_code
def yX11_readPart : MethodName := ⟨RX11, "readPart", "(I)V"⟩
abbrev cX11_step : ByteArray := prog_13_method_24_code
def yX11_step : MethodName := ⟨RX11, "step", "(II)V"⟩
abbrev cX11_pile : ByteArray := prog_13_method_25_code
def yX11_pile : MethodName := ⟨RX11, "pile", "(II)V"⟩
abbrev cX11_e : ByteArray := prog_13_method_26_code
def yX11_e : MethodName := ⟨RX11, "e", "(IZ)V"⟩
abbrev cX11_value : ByteArray := prog_13_method_27_code
def yX11_value : MethodName := ⟨RX11, "value", "(IIZ)I"⟩
abbrev cX11_meant : ByteArray := prog_13_method_28_code
def yX11_meant : MethodName := ⟨RX11, "meant", "(IZ)V"⟩
abbrev cX11_rankHere : ByteArray := prog_13_method_29_code
def yX11_rankHere : MethodName := ⟨RX11, "rankHere", "()I"⟩
abbrev cX11_behind : ByteArray := prog_13_method_30_code
def yX11_behind : MethodName := ⟨RX11, "behind", "()I"⟩
abbrev cX11_fault : ByteArray := prog_13_method_31_code
def yX11_fault : MethodName := ⟨RX11, "fault", "(I)I"⟩
abbrev cX11_spot : ByteArray := prog_13_method_32_code
def yX11_spot : MethodName := ⟨RX11, "spot", "(II)I"⟩
abbrev cX11_minutesOf : ByteArray := prog_13_method_33_code
def yX11_minutesOf : MethodName := ⟨RX11, "minutesOf", "(I)I"⟩
abbrev cX11_grade : ByteArray := prog_13_method_34_code
def yX11_grade : MethodName := ⟨RX11, "grade", "(III)I"⟩
abbrev cX11_isEntry : ByteArray := prog_13_method_35_code
def yX11_isEntry : MethodName := ⟨RX11, "isEntry", "(I)Z"⟩
abbrev cX11_entry : ByteArray := prog_13_method_36_code
def yX11_entry : MethodName := ⟨RX11, "entry", "(IIIIII)I"⟩
abbrev cX11_isName : ByteArray := prog_13_method_37_code
def yX11_isName : MethodName := ⟨RX11, "isName", "(J)Z"⟩
abbrev cX11_piece : ByteArray := prog_13_method_38_code
def yX11_piece : MethodName := ⟨RX11, "piece", "(IJ)I"⟩
abbrev cX11_spotOf : ByteArray := prog_13_method_39_code
def yX11_spotOf : MethodName := ⟨RX11, "spotOf", "(I)I"⟩
abbrev cX11_inList : ByteArray := prog_13_method_40_code
def yX11_inList : MethodName := ⟨RX11, "inList", "(II)I"⟩
abbrev cX11_inNone : ByteArray := prog_13_method_41_code
def yX11_inNone : MethodName := ⟨RX11, "inNone", "(II)I"⟩
abbrev cX11_work : ByteArray := prog_13_method_42_code
def yX11_work : MethodName := ⟨RX11, "work", "(IIII)I"⟩
abbrev cX11_leaf : ByteArray := prog_13_method_43_code
def yX11_leaf : MethodName := ⟨RX11, "leaf", "(IIII)I"⟩
abbrev cX11_total : ByteArray := prog_13_method_44_code
def yX11_total : MethodName := ⟨RX11, "total", "(I)I"⟩
abbrev cX11_leastMark : ByteArray := prog_13_method_45_code
def yX11_leastMark : MethodName := ⟨RX11, "leastMark", "(I)I"⟩
abbrev cX11_two : ByteArray := prog_13_method_46_code
def yX11_two : MethodName := ⟨RX11, "two", "(III)I"⟩
abbrev cX11_judge : ByteArray := prog_13_method_47_code
def yX11_judge : MethodName := ⟨RX11, "judge", "(I)I"⟩
abbrev cX11_centre : ByteArray := prog_13_method_48_code
def yX11_centre : MethodName := ⟨RX11, "centre", "()I"⟩
abbrev cX11_isCentre : ByteArray := prog_13_method_49_code
def yX11_isCentre : MethodName := ⟨RX11, "isCentre", "(I)Z"⟩
abbrev cX11_way : ByteArray := prog_13_method_50_code
def yX11_way : MethodName := ⟨RX11, "way", "(III)Z"⟩
abbrev cX11_examiner : ByteArray := prog_13_method_51_code
def yX11_examiner : MethodName := ⟨RX11, "examiner", "(II)I"⟩
abbrev cX11_isExaminer : ByteArray := prog_13_method_52_code
def yX11_isExaminer : MethodName := ⟨RX11, "isExaminer", "(I)Z"⟩
abbrev cX11_session : ByteArray := prog_13_method_53_code
def yX11_session : MethodName := ⟨RX11, "session", "(II)I"⟩
abbrev cX11_isSession : ByteArray := prog_13_method_54_code
def yX11_isSession : MethodName := ⟨RX11, "isSession", "(I)Z"⟩
abbrev cX11_minutesIn : ByteArray := prog_13_method_55_code
def yX11_minutesIn : MethodName := ⟨RX11, "minutesIn", "(II)I"⟩
abbrev cX11_put : ByteArray := prog_13_method_56_code
def yX11_put : MethodName := ⟨RX11, "put", "(II)Z"⟩
abbrev cX11_of : ByteArray := prog_13_method_57_code
def yX11_of : MethodName := ⟨RX11, "of", "(II)I"⟩
abbrev cX11_hasHeard : ByteArray := prog_13_method_58_code
def yX11_hasHeard : MethodName := ⟨RX11, "hasHeard", "(II)Z"⟩
abbrev cX11_mayTake : ByteArray := prog_13_method_59_code
def yX11_mayTake : MethodName := ⟨RX11, "mayTake", "(II)Z"⟩
abbrev cX11_may : ByteArray := prog_13_method_60_code
def yX11_may : MethodName := ⟨RX11, "may", "(II)I"⟩
abbrev cX11_stuck : ByteArray := prog_13_method_61_code
def yX11_stuck : MethodName := ⟨RX11, "stuck", "()I"⟩
abbrev cX11_nextOf : ByteArray := prog_13_method_62_code
def yX11_nextOf : MethodName := ⟨RX11, "nextOf", "(II)I"⟩
abbrev cX11_travel : ByteArray := prog_13_method_63_code
def yX11_travel : MethodName := ⟨RX11, "travel", "(II)I"⟩
abbrev cX11_agrees : ByteArray := prog_13_method_64_code
def yX11_agrees : MethodName := ⟨RX11, "agrees", "(II)Z"⟩
abbrev cX11_solve : ByteArray := prog_13_method_65_code
def yX11_solve : MethodName := ⟨RX11, "solve", "()I"⟩
abbrev cX11_tour : ByteArray := prog_13_method_66_code
def yX11_tour : MethodName := ⟨RX11, "tour", "()I"⟩
abbrev cX11_toured : ByteArray := prog_13_method_67_code
def yX11_toured : MethodName := ⟨RX11, "toured", "(I)I"⟩
abbrev cX11_later : ByteArray := prog_13_method_68_code
def yX11_later : MethodName := ⟨RX11, "later", "(I)I"⟩
abbrev cX11_tell : ByteArray := prog_13_method_69_code
def yX11_tell : MethodName := ⟨RX11, "tell", "(IIII)I"⟩
abbrev cX11_mark : ByteArray := prog_13_method_70_code
def yX11_mark : MethodName := ⟨RX11, "mark", "(IIII)I"⟩
abbrev cX11_appeal : ByteArray := prog_13_method_71_code
def yX11_appeal : MethodName := ⟨RX11, "appeal", "(III)I"⟩
abbrev cX11_untell : ByteArray := prog_13_method_72_code
def yX11_untell : MethodName := ⟨RX11, "untell", "(I)Z"⟩
abbrev cX11_isKnown : ByteArray := prog_13_method_73_code
def yX11_isKnown : MethodName := ⟨RX11, "isKnown", "(II)Z"⟩
abbrev cX11_main : ByteArray := prog_13_method_74_code
def yX11_main : MethodName := ⟨RX11, "main", "(II)I"⟩
abbrev cX11_lastOf : ByteArray := prog_13_method_75_code
def yX11_lastOf : MethodName := ⟨RX11, "lastOf", "(IIII)I"⟩
abbrev cX11_known : ByteArray := prog_13_method_76_code
def yX11_known : MethodName := ⟨RX11, "known", "(III)I"⟩
abbrev cX11_result : ByteArray := prog_13_method_77_code
def yX11_result : MethodName := ⟨RX11, "result", "(II)I"⟩
abbrev cX11_hardness : ByteArray := prog_13_method_78_code
def yX11_hardness : MethodName := ⟨RX11, "hardness", "(I)I"⟩
abbrev cX11_doesHold : ByteArray := prog_13_method_79_code
def yX11_doesHold : MethodName := ⟨RX11, "doesHold", "(II)Z"⟩
abbrev cX11_certify : ByteArray := prog_13_method_80_code
def yX11_certify : MethodName := ⟨RX11, "certify", "(I)I"⟩
abbrev cX11_certificate : ByteArray := prog_13_method_81_code
def yX11_certificate : MethodName := ⟨RX11, "certificate", "(II)I"⟩
abbrev cX11_holds : ByteArray := prog_13_method_82_code
def yX11_holds : MethodName := ⟨RX11, "holds", "(II)I"⟩
abbrev cX11_about : ByteArray := prog_13_method_83_code
def yX11_about : MethodName := ⟨RX11, "about", "(I)I"⟩
abbrev cX11_feed : ByteArray := prog_13_method_84_code
def yX11_feed : MethodName := ⟨RX11, "feed", "(IIIII)I"⟩
abbrev cX11_end : ByteArray := prog_13_method_85_code
def yX11_end : MethodName := ⟨RX11, "end", "(I)I"⟩
def RJ9 : String := "java/lang/Math"
def TJ9 : u_T := fun k => match k with
  | _ => ("", "", "", false)
def tyJ9 : Nat → FieldType := fun k => match k with
  | _ => .int
abbrev wsJ90 : List Cond := u_ws RJ9 TJ9 0
theorem nmJ9 : ∀ a, a < 0 → ∀ b, b < 0 → a ≠ b → (TJ9 a).2.1 ≠ (TJ9 b).2.1 := by decide +kernel
theorem tyJ9_ok : ∀ k, k < 0 → parseFieldDescriptor (TJ9 k).2.2.1 = some (tyJ9 k) := by decide +kernel
abbrev cJ9_max_7cf53 : ByteArray := prog_14_method_65_code
def yJ9_max_7cf53 : MethodName := ⟨RJ9, "max", "(II)I"⟩
abbrev cJ9_min_7cf53 : ByteArray := prog_14_method_69_code
def yJ9_min_7cf53 : MethodName := ⟨RJ9, "min", "(II)I"⟩
abbrev cJ9_min_f86c9 : ByteArray := prog_14_method_70_code
def yJ9_min_f86c9 : MethodName := ⟨RJ9, "min", "(JJ)J"⟩
def RL : String := "ExamTourLaw"
abbrev cL_law : ByteArray := code
abbrev vwCl : List vw_C := [(RX0, TX0, 4), (RX1, TX1, 8), (RX2, TX2, 10), (RX3, TX3, 13), (RX4, TX4, 3), (RX5, TX5, 9), (RX6, TX6, 6), (RX7, TX7, 9), (RX8, TX8, 4), (RX9, TX9, 7), (RX10, TX10, 8), (RX11, TX11, 77)]
end
section
/-! An abstract heap: cells by small numbers (0: the script, 1: the static array of words, 2 and on: what was made, in the order of making).
A judgement ax_J over it: from every machine state that the abstract one stands for, the machine comes to Z. One rule an instruction. -/
abbrev ax_C : Type := (Nat × Nat × (Nat → Value)) ⊕ (Nat × (Nat → Value))
abbrev ax_H : Type := Nat × (Nat → ax_C)
def ax_v (g : Nat → Nat) (v : Value) : Value := match v with
  | .ref k => .ref (g k)
  | w => w
theorem ax_cat (g : Nat → Nat) (v : Value) : (ax_v g v).category = v.category := by cases v <;> rfl
def ax_ty (t : Nat) : FieldType := match t with
  | 0 => .int
  | 1 => .long
  | 2 => .byte
  | 3 => .boolean
  | 4 => .object "ExamTour$Syllabus"
  | _ => .object "ExamTour$Grade"
def ax_G (g : Nat → Nat) : Prop := (∀ k, 2 ≤ k → g (k + 1) = g k + 1) ∧ g 0 < g 2 ∧ g 1 < g 2
theorem ax_G.add {g : Nat → Nat} (h : ax_G g) : ∀ k, g (2 + k) = g 2 + k
  | 0 => rfl
  | k + 1 => by
    have := h.1 (2 + k) (by omega)
    rw [← Nat.add_assoc, this, ax_G.add h k]
    rfl
theorem ax_G.at {g : Nat → Nat} (h : ax_G g) {k : Nat} (hk : 2 ≤ k) : g k = g 2 + (k - 2) := by
  have := h.add (k - 2)
  rwa [show 2 + (k - 2) = k by omega] at this
theorem ax_G.ge {g : Nat → Nat} (h : ax_G g) {k : Nat} (hk : 2 ≤ k) : g 2 ≤ g k := by rw [h.at hk]; omega
theorem ax_G.ne {g : Nat → Nat} (h : ax_G g) {j k : Nat} (hk : 2 ≤ k) (hj : j ≠ k) : g j ≠ g k := by
  by_cases h2 : 2 ≤ j
  · rw [h.at h2, h.at hk]; omega
  · have h3 := h.ge hk
    have h4 := h.2
    rcases (show j = 0 ∨ j = 1 by omega) with rfl | rfl <;> omega
/-- is there a cell -/
def ax_pr (c : ax_C) : Prop := match c with
  | .inl (t, _, _) => t < 6
  | .inr (ci, _) => ci < 12
def ax_at (D : va_G) (g : Nat → Nat) (U : State) (H : Heap) (a : Nat) (c : ax_C) : Prop := match c with
  | .inl (t, n, f) => ∃ cell : Cell, H[a]? = some cell ∧ U.isArrayOf cell (ax_ty t) ∧ cell.vm ≠ .unknown ∧ (4 ≤ t → va_RA U cell.cls (ax_ty t)) ∧ n ≤ cell.slots.size ∧ cell.slots.size.toInt32 = Int32.ofNat n ∧ ∀ j, j < n → cell.slots[j]? = some (ax_v g (f j))
  | .inr (ci, fs) => ∃ r : vw_C, vwCl[ci]? = some r ∧ t_OB a (D.1 ci) r.2.2 (D.2 ci) H (fun k => ax_v g (fs k))
def ax_R (D : va_G) (g : Nat → Nat) (U : State) (h : ax_H) (H : Heap) : Prop := H.size = g h.1 ∧ 2 ≤ h.1 ∧ ∀ k, ax_pr (h.2 k) → ax_at D g U H (g k) (h.2 k)
theorem ax_at.moved {D : va_G} {g : Nat → Nat} {u U : State} {H : Heap} {a : Nat} {c : ax_C} (hvm : u.vm.Alike U.vm) (h : ax_at D g u H a c) : ax_at D g U H a c := by
  rcases c with ⟨t, n, f⟩ | ⟨ci, fs⟩
  · obtain ⟨cell, h1, h2, h3, h4, h5⟩ := h
    exact ⟨cell, h1, State.isArrayOf_alike hvm h2, h3, fun q => (h4 q).moved hvm, h5⟩
  · exact h
theorem ax_at.kept {D : va_G} {g : Nat → Nat} {U : State} {H H1 : Heap} {a : Nat} {c : ax_C} (h : ax_at D g U H a c) (hq : H1[a]? = H[a]?) : ax_at D g U H1 a c := by
  rcases c with ⟨t, n, f⟩ | ⟨ci, fs⟩
  · obtain ⟨cell, h1, h2⟩ := h
    exact ⟨cell, by rw [hq]; exact h1, h2⟩
  · obtain ⟨r, h1, h2⟩ := h
    exact ⟨r, h1, h2.kept hq⟩
theorem ax_at.lt {D : va_G} {g : Nat → Nat} {U : State} {H : Heap} {a : Nat} {c : ax_C} (h : ax_at D g U H a c) : a < H.size := by
  rcases c with ⟨t, n, f⟩ | ⟨ci, fs⟩
  · obtain ⟨cell, h1, h2⟩ := h
    exact (Array.getElem?_eq_some_iff.mp h1).1
  · obtain ⟨r, h1, cell, h2, -⟩ := h
    exact (Array.getElem?_eq_some_iff.mp h2).1
theorem ax_R.moved {D : va_G} {g : Nat → Nat} {u U : State} {h : ax_H} {H : Heap} (hvm : u.vm.Alike U.vm) (hR : ax_R D g u h H) : ax_R D g U h H := ⟨hR.1, hR.2.1, fun k hk => (hR.2.2 k hk).moved hvm⟩
/-- a cell is written -/
theorem ax_R.set {D : va_G} {g : Nat → Nat} {U : State} {h : ax_H} {H H1 : Heap} (hG : ax_G g) (hR : ax_R D g U h H) {k : Nat} (hk : 2 ≤ k) {c : ax_C} (z : H1.size = H.size) (oq : ∀ q : Nat, q ≠ g k → H1[q]? = H[q]?) (hc : ax_at D g U H1 (g k) c) : ax_R D g U (h.1, va_up h.2 k c) H1 := by
  refine ⟨z.trans hR.1, hR.2.1, fun j hj => ?_⟩
  by_cases e : j = k
  · subst e
    show ax_at D g U H1 (g j) (if j = j then c else _)
    rw [if_pos rfl]
    exact hc
  · have e2 : va_up h.2 k c j = h.2 j := if_neg e
    change ax_pr (va_up h.2 k c j) at hj
    show ax_at D g U H1 (g j) (va_up h.2 k c j)
    rw [e2] at hj ⊢
    exact (hR.2.2 j hj).kept (oq _ (hG.ne hk e))
/-- a cell is made -/
theorem ax_R.push {D : va_G} {g : Nat → Nat} {U : State} {h : ax_H} {H H1 : Heap} (hG : ax_G g) (hR : ax_R D g U h H) {c : ax_C} (z : H1.size = H.size + 1) (oq : ∀ q : Nat, q < H.size → H1[q]? = H[q]?) (hc : ax_at D g U H1 (g h.1) c) : ax_R D g U (h.1 + 1, va_up h.2 h.1 c) H1 := by
  refine ⟨by show H1.size = g (h.1 + 1); rw [z, hR.1, hG.1 _ hR.2.1], by have := hR.2.1; show 2 ≤ h.1 + 1; omega, fun j hj => ?_⟩
  by_cases e : j = h.1
  · subst e
    show ax_at D g U H1 (g h.1) (if h.1 = h.1 then c else _)
    rw [if_pos rfl]
    exact hc
  · have e2 : va_up h.2 h.1 c j = h.2 j := if_neg e
    change ax_pr (va_up h.2 h.1 c j) at hj
    show ax_at D g U H1 (g j) (va_up h.2 h.1 c j)
    rw [e2] at hj ⊢
    have := hR.2.2 j hj
    exact this.kept (oq _ this.lt)
/-! locals -/
def ax_L (g : Nat → Nat) (ls : Array Slot) (nL : Nat) (L : List (Option Value)) : Prop := ls.size = nL ∧ lv_wf ls ∧ ∀ (i : Nat) (v : Value), L[i]? = some (some v) → ls[i]? = some (.val (ax_v g v))
def ax_pairs (g : Nat → Nat) (L : List (Option Value)) : List (Nat × Value) := (List.range L.length).filterMap (fun i => match L[i]? with | some (some v) => some (i, ax_v g v) | _ => none)
theorem ax_pairs_mem {g : Nat → Nat} {L : List (Option Value)} {q : Nat × Value} : q ∈ ax_pairs g L ↔ ∃ v, L[q.1]? = some (some v) ∧ q.2 = ax_v g v := by
  unfold ax_pairs
  rw [List.mem_filterMap]
  constructor
  · rintro ⟨i, -, hi⟩
    split at hi
    · rename_i v hv
      cases hi
      exact ⟨v, hv, rfl⟩
    · cases hi
  · rintro ⟨v, h1, h2⟩
    refine ⟨q.1, List.mem_range.mpr (List.getElem?_eq_some_iff.mp h1).1, ?_⟩
    rw [h1]
    show some (q.1, ax_v g v) = some q
    rw [← h2]
theorem ax_L.has {g : Nat → Nat} {ls : Array Slot} {nL : Nat} {L : List (Option Value)} (h : ax_L g ls nL L) : lv_has ls nL (ax_pairs g L) := by
  refine ⟨h.1, h.2.1, fun q hq => ?_⟩
  obtain ⟨v, h1, h2⟩ := ax_pairs_mem.mp hq
  rw [h2]
  exact h.2.2 _ _ h1
/-- what a store at i leaves of the one before it: a long is gone -/
def ax_k (L : List (Option Value)) (i : Nat) : List (Option Value) := match i with
  | 0 => L
  | j + 1 => match L[j]? with
    | some (some (.long _)) => L.set j none
    | some (some (.double _)) => L.set j none
    | _ => L
def ax_s1 (L : List (Option Value)) (i : Nat) (v : Value) : List (Option Value) := (ax_k L i).set i (some v)
def ax_s2 (L : List (Option Value)) (i : Nat) (v : Value) : List (Option Value) := ((ax_k L i).set i (some v)).set (i + 1) none
theorem ax_k_get {L : List (Option Value)} {i j : Nat} {w : Value} (h : (ax_k L i)[j]? = some (some w)) : L[j]? = some (some w) ∧ ¬ (j + 1 = i ∧ w.category = 2) := by
  unfold ax_k at h
  split at h
  · exact ⟨h, fun q => by omega⟩
  · rename_i i' k
    have key : ∀ M : List (Option Value), M = L.set k none → M[j]? = some (some w) → L[j]? = some (some w) ∧ ¬ (j + 1 = k + 1 ∧ w.category = 2) := by
      intro M hM hj
      subst hM
      by_cases e : k = j
      · subst e
        rw [List.getElem?_set] at hj
        split at hj
        · split at hj <;> simp at hj
        · exact absurd rfl ‹_›
      · rw [List.getElem?_set_ne e] at hj
        exact ⟨hj, fun q => by omega⟩
    split at h
    · exact key _ rfl h
    · exact key _ rfl h
    · rename_i n1 n2
      refine ⟨h, fun q => ?_⟩
      have e : j = k := by omega
      subst e
      cases w with
      | long z => exact n1 z h
      | double z => exact n2 z h
      | _ => exact absurd q.2 (fun z => by simp [Value.category] at z)
theorem ax_L.s1 {g : Nat → Nat} {ls : Array Slot} {nL : Nat} {L : List (Option Value)} (h : ax_L g ls nL L) {i : Nat} (hi : i < nL) {v : Value} {ls' : Array Slot} (h' : lv_has ls' nL ((i, ax_v g v) :: (ax_pairs g L).filter (fun q => !(q.1 == i) && !(q.1 + 1 == i && q.2.category == 2)))) : ax_L g ls' nL (ax_s1 L i v) := by
  refine ⟨h'.1, h'.2.1, fun j w hj => ?_⟩
  by_cases e : i = j
  · subst e
    have : w = v := by
      unfold ax_s1 at hj
      rw [List.getElem?_set] at hj
      split at hj
      · split at hj
        · simpa using hj.symm
        · cases hj
      · exact absurd rfl ‹_›
    subst this
    exact h'.2.2 _ List.mem_cons_self
  · unfold ax_s1 at hj
    rw [List.getElem?_set_ne e] at hj
    obtain ⟨h1, h2⟩ := ax_k_get hj
    refine h'.2.2 (j, ax_v g w) (List.mem_cons_of_mem _ (List.mem_filter.mpr ⟨ax_pairs_mem.mpr ⟨w, h1, rfl⟩, ?_⟩))
    rw [ax_cat]
    simp
    exact ⟨fun q => e q.symm, Decidable.or_iff_not_imp_left.mpr (fun q q2 => h2 ⟨Decidable.not_not.mp q, q2⟩)⟩
theorem ax_L.s2 {g : Nat → Nat} {ls : Array Slot} {nL : Nat} {L : List (Option Value)} (h : ax_L g ls nL L) {i : Nat} (hi : i + 1 < nL) {v : Value} {ls' : Array Slot} (h' : lv_has ls' nL ((i, ax_v g v) :: (ax_pairs g L).filter (fun q => !(q.1 == i) && (!(q.1 == i + 1) && !(q.1 + 1 == i && q.2.category == 2))))) : ax_L g ls' nL (ax_s2 L i v) := by
  refine ⟨h'.1, h'.2.1, fun j w hj => ?_⟩
  unfold ax_s2 at hj
  by_cases e1 : i + 1 = j
  · subst e1
    rw [List.getElem?_set] at hj
    split at hj
    · split at hj <;> simp at hj
    · exact absurd rfl ‹_›
  · rw [List.getElem?_set_ne e1] at hj
    by_cases e : i = j
    · subst e
      have : w = v := by
        rw [List.getElem?_set] at hj
        split at hj
        · split at hj
          · simpa using hj.symm
          · cases hj
        · exact absurd rfl ‹_›
      subst this
      exact h'.2.2 _ List.mem_cons_self
    · rw [List.getElem?_set_ne e] at hj
      obtain ⟨h1, h2⟩ := ax_k_get hj
      refine h'.2.2 (j, ax_v g w) (List.mem_cons_of_mem _ (List.mem_filter.mpr ⟨ax_pairs_mem.mpr ⟨w, h1, rfl⟩, ?_⟩))
      rw [ax_cat]
      simp
      exact ⟨fun q => e q.symm, fun q => e1 q.symm, Decidable.or_iff_not_imp_left.mpr (fun q q2 => h2 ⟨Decidable.not_not.mp q, q2⟩)⟩
/-! entry -/
def ax_ent0 : List Value → List (Option Value)
  | [] => []
  | v :: vs => if v.category = 2 then some v :: none :: ax_ent0 vs else some v :: ax_ent0 vs
def ax_ent (A : List Value) (n : Nat) : List (Option Value) := ax_ent0 A ++ List.replicate (n - (ax_ent0 A).length) none
theorem ax_ent_len (g : Nat → Nat) : ∀ A : List Value, (lg_sl (A.map (ax_v g))).length = (ax_ent0 A).length
  | [] => rfl
  | v :: vs => by
    have ih := ax_ent_len g vs
    unfold lg_sl at ih ⊢
    simp only [List.map_cons, List.flatMap_cons, List.length_append, ih, ax_cat, ax_ent0]
    split <;> simp <;> omega
theorem ax_ent_mem (g : Nat → Nat) : ∀ (A : List Value) (i0 i : Nat) (v : Value), (ax_ent0 A)[i]? = some (some v) → (i0 + i, ax_v g v) ∈ lv_args i0 (A.map (ax_v g))
  | [], i0, i, v, h => by simp [ax_ent0] at h
  | w :: vs, i0, i, v, h => by
    simp only [List.map_cons, lv_args, ax_cat]
    unfold ax_ent0 at h
    by_cases hc : w.category = 2
    · rw [if_pos hc] at h ⊢
      match i, h with
      | 0, h => simp at h; subst h; exact List.mem_cons_self
      | 1, h => simp at h
      | i + 2, h =>
        have := ax_ent_mem g vs (i0 + 2) i v (by simpa using h)
        refine List.mem_cons_of_mem _ ?_
        rwa [show i0 + 2 + i = i0 + (i + 2) by omega] at this
    · rw [if_neg hc] at h ⊢
      match i, h with
      | 0, h => simp at h; subst h; exact List.mem_cons_self
      | i + 1, h =>
        have := ax_ent_mem g vs (i0 + 1) i v (by simpa using h)
        refine List.mem_cons_of_mem _ ?_
        rwa [show i0 + 1 + i = i0 + (i + 1) by omega] at this
theorem ax_ent_L (g : Nat → Nat) (A : List Value) {n : Nat} (h : (ax_ent0 A).length ≤ n) : ax_L g ((lg_sl (A.map (ax_v g)) ++ List.replicate (n - (lg_sl (A.map (ax_v g))).length) Slot.unset).toArray) n (ax_ent A n) := by
  have hl := lv_entry (A.map (ax_v g)) (n := n) (by rw [ax_ent_len]; exact h)
  refine ⟨hl.1, hl.2.1, fun i v hv => ?_⟩
  unfold ax_ent at hv
  by_cases hi : i < (ax_ent0 A).length
  · rw [List.getElem?_append_left hi] at hv
    have := ax_ent_mem g A 0 i v hv
    rw [Nat.zero_add] at this
    exact hl.2.2 _ this
  · rw [List.getElem?_append_right (by omega), List.getElem?_replicate] at hv
    split at hv <;> simp at hv
end
section
/-! the judgement and its rules -/
def ax_ws : List Cond := lw_tbl.filter goodWord
def ax_nest : List Cond := lw_tbl.filter (fun w => !goodWord w)
/-- the tables, as a state has them: the classes, the nest mates' links, the two classes of arrays of references, the static array -/
def ax_nw (w : Cond) (U : State) : Prop := match w with
  | .fieldLinkNest a i b n d h => va_Nw (.fieldLinkNest a i b n d h) U
  | .methodLinkNest a i x h => va_Nw (.methodLinkNest a i x h) U
  | .arrayOver (.object C) => va_AO C U
  | _ => True
def ax_T (D : va_G) (g : Nat → Nat) (U : State) : Prop := va_K D vwCl [] U ∧ (∀ w ∈ ax_nest, ax_nw w U) ∧ va_Z "ExamTour" "KEPT_WORDS" "[J" (.ref (g 1)) (fun q => g 2 ≤ q) U U.heap
theorem ax_nw.moved {w : Cond} {s U : State} (hW : s.WarmedH U.vm) (h : ax_nw w s) : ax_nw w U := by
  cases w with
  | fieldLinkNest a i b n d h' => exact va_Nw.warmF hW h
  | methodLinkNest a i x h' => exact va_Nw.warmM hW h
  | arrayOver ty =>
    cases ty with
    | object C => exact va_AO.moved hW.alike h
    | _ => exact trivial
  | _ => exact trivial
theorem ax_T.moved {D : va_G} {g : Nat → Nat} {s U : State} (hW : s.WarmedH U.vm) {locs : List Loc} (hS : va_S (fun q => g 2 ≤ q) s.heap U.heap locs) (h : ax_T D g s) : ax_T D g U :=
  ⟨va_K.moved hW.alike h.1, fun w hw => (h.2.1 w hw).moved hW, va_Z.kept (va_Z.moved hW.alike h.2.2) (fun a h1 h2 => hS.2.1 a h1 h2)⟩
/-- a method: its name, code, locals, answer, the cells and slots that it may make -/
abbrev ax_M : Type := MethodName × ByteArray × Nat × Option FieldType × Nat × Nat
def ax_rm (d : Nat) (M : ax_M) : Room := { frames := d, cells := M.2.2.2.2.1, slots := M.2.2.2.2.2, locals := 64 * d }
def ax_J (p : Program) (l : Launch) (e : Env) (R : Room) (s : State) (m : MethodId) (args : Array Value) (below : List Frame) (meth : Method) (c : Code) (Z : State → Prop) (D : va_G) (g : Nat → Nat) (pc : Nat) (L : List (Option Value)) (st : List Value) (h : ax_H) (k n : Nat) : Prop :=
  ∀ (H : Heap) (locs : List Loc) (ls : Array Slot), ax_R D g s h H → va_S (fun q => g 2 ≤ q) s.heap H locs → ax_L g ls c.maxLocals L → W p l e R s m args below meth c H locs k n Z (F0 m pc ls (st.map (ax_v g)))
abbrev ax_X := Program × Launch × Env × Room × State × MethodId × Array Value × List Frame × Method × Code × (State → Prop) × va_G × (Nat → Nat)
def ax_j (X : ax_X) (pc : Nat) (L : List (Option Value)) (st : List Value) (h : ax_H) (k n : Nat) : Prop :=
  match X with
  | (p, l, e, R, s, m, args, below, meth, c, Z, D, g) => ax_J p l e R s m args below meth c Z D g pc L st h k n
/-- the walk is of method M, with room for d frames -/
def ax_ok (X : ax_X) (M : ax_M) (d : Nat) : Prop :=
  match X with
  | (p, _, _, R, s, m, args, _, meth, c, _, D, g) => p.tables.exec = Jvm.exec ∧ c.code = M.2.1 ∧ c.maxLocals = M.2.2.1 ∧ meth.sig.returnType = M.2.2.2.1 ∧ s.vm.findClass M.1.cls = some m.cls ∧ (∀ w ∈ ax_ws, w.before args s = true) ∧ meth.locks = false ∧ meth.name = M.1.name ∧ ax_T D g s ∧ ax_G g ∧ g 2 ≤ s.heap.size ∧ R = ax_rm d M
section AXR
variable {X : ax_X} {M : ax_M} {d pc k n : Nat} {L : List (Option Value)} {st : List Value} {h : ax_H}
theorem ax_iconst (hX : ax_ok X M d) {i : Int} {v : Int32} (hd : decode M.2.1 pc = .ok (.iconst i, 1)) (hv : Int32.ofInt i = v) (kk : ax_j X (pc + 1) L (.int v :: st) h k n) : ax_j X pc L st h k n := by
  obtain ⟨p, l, e, R, s, m, args, below, meth, c, Z, D, g⟩ := X
  exact fun H locs ls hR hS hL => lv_iconst hX.1 hX.2.1 hd hv (kk H locs ls hR hS hL)
theorem ax_bipush (hX : ax_ok X M d) {i : Int} {v : Int32} (hd : decode M.2.1 pc = .ok (.bipush i, 2)) (hv : (Int8.ofInt i).toInt32 = v) (kk : ax_j X (pc + 2) L (.int v :: st) h k n) : ax_j X pc L st h k n := by
  obtain ⟨p, l, e, R, s, m, args, below, meth, c, Z, D, g⟩ := X
  exact fun H locs ls hR hS hL => lv_bipush hX.1 hX.2.1 hd hv (kk H locs ls hR hS hL)
theorem ax_sipush (hX : ax_ok X M d) {i : Int} {v : Int32} (hd : decode M.2.1 pc = .ok (.sipush i, 3)) (hv : (Int16.ofInt i).toInt32 = v) (kk : ax_j X (pc + 3) L (.int v :: st) h k n) : ax_j X pc L st h k n := by
  obtain ⟨p, l, e, R, s, m, args, below, meth, c, Z, D, g⟩ := X
  exact fun H locs ls hR hS hL => lv_sipush hX.1 hX.2.1 hd hv (kk H locs ls hR hS hL)
theorem ax_lconst (hX : ax_ok X M d) {i : Fin 2} {v : Int64} (hd : decode M.2.1 pc = .ok (.lconst i, 1)) (hv : Int64.ofNat (i : Nat) = v) (kk : ax_j X (pc + 1) L (.long v :: st) h k n) : ax_j X pc L st h k n := by
  obtain ⟨p, l, e, R, s, m, args, below, meth, c, Z, D, g⟩ := X
  exact fun H locs ls hR hS hL => lv_lconst hX.1 hX.2.1 hd hv (kk H locs ls hR hS hL)
theorem ax_null (hX : ax_ok X M d) (hd : decode M.2.1 pc = .ok (.aconst_null, 1)) (kk : ax_j X (pc + 1) L (.null :: st) h k n) : ax_j X pc L st h k n := by
  obtain ⟨p, l, e, R, s, m, args, below, meth, c, Z, D, g⟩ := X
  exact fun H locs ls hR hS hL => lv_null hX.1 hX.2.1 hd (kk H locs ls hR hS hL)
theorem ax_ldc (hX : ax_ok X M d) {i : Nat} {v : Int32} (hw : Cond.constant M.1.cls i v ∈ ax_ws) (hd : decode M.2.1 pc = .ok (.ldc i, 2)) (kk : ax_j X (pc + 2) L (.int v :: st) h k n) : ax_j X pc L st h k n := by
  obtain ⟨p, l, e, R, s, m, args, below, meth, c, Z, D, g⟩ := X
  exact fun H locs ls hR hS hL => lv_ldc hX.1 hX.2.1 hX.2.2.2.2.1 (hX.2.2.2.2.2.1 _ hw) hd (kk H locs ls hR hS hL)
theorem ax_ldcw (hX : ax_ok X M d) {i : Nat} {v : Int32} (hw : Cond.constant M.1.cls i v ∈ ax_ws) (hd : decode M.2.1 pc = .ok (.ldc_w i, 3)) (kk : ax_j X (pc + 3) L (.int v :: st) h k n) : ax_j X pc L st h k n := by
  obtain ⟨p, l, e, R, s, m, args, below, meth, c, Z, D, g⟩ := X
  exact fun H locs ls hR hS hL => lv_ldcw hX.1 hX.2.1 hX.2.2.2.2.1 (hX.2.2.2.2.2.1 _ hw) hd (kk H locs ls hR hS hL)
theorem ax_ldc2 (hX : ax_ok X M d) {i : Nat} {v : Int64} (hw : Cond.constantLong M.1.cls i v ∈ ax_ws) (hd : decode M.2.1 pc = .ok (.ldc2_w i, 3)) (kk : ax_j X (pc + 3) L (.long v :: st) h k n) : ax_j X pc L st h k n := by
  obtain ⟨p, l, e, R, s, m, args, below, meth, c, Z, D, g⟩ := X
  exact fun H locs ls hR hS hL => lv_ldc2 hX.1 hX.2.1 hX.2.2.2.2.1 (hX.2.2.2.2.2.1 _ hw) hd (kk H locs ls hR hS hL)
theorem ax_iload_n (hX : ax_ok X M d) {i : Fin 4} {v : Int32} (hd : decode M.2.1 pc = .ok (.iload_n i, 1)) (hl : L[(i : Nat)]? = some (some (.int v))) (kk : ax_j X (pc + 1) L (.int v :: st) h k n) : ax_j X pc L st h k n := by
  obtain ⟨p, l, e, R, s, m, args, below, meth, c, Z, D, g⟩ := X
  exact fun H locs ls hR hS hL => lv_iload_n hX.1 hX.2.1 hd rfl (hL.2.2 _ _ hl) (kk H locs ls hR hS hL)
theorem ax_iload (hX : ax_ok X M d) {i : Nat} {v : Int32} (hd : decode M.2.1 pc = .ok (.iload i, 2)) (hl : L[i]? = some (some (.int v))) (kk : ax_j X (pc + 2) L (.int v :: st) h k n) : ax_j X pc L st h k n := by
  obtain ⟨p, l, e, R, s, m, args, below, meth, c, Z, D, g⟩ := X
  exact fun H locs ls hR hS hL => lv_iload hX.1 hX.2.1 hd (hL.2.2 _ _ hl) (kk H locs ls hR hS hL)
theorem ax_lload_n (hX : ax_ok X M d) {i : Fin 4} {v : Int64} (hd : decode M.2.1 pc = .ok (.lload_n i, 1)) (hl : L[(i : Nat)]? = some (some (.long v))) (kk : ax_j X (pc + 1) L (.long v :: st) h k n) : ax_j X pc L st h k n := by
  obtain ⟨p, l, e, R, s, m, args, below, meth, c, Z, D, g⟩ := X
  exact fun H locs ls hR hS hL => lv_lload_n hX.1 hX.2.1 hd rfl (hL.2.2 _ _ hl) (kk H locs ls hR hS hL)
theorem ax_lload (hX : ax_ok X M d) {i : Nat} {v : Int64} (hd : decode M.2.1 pc = .ok (.lload i, 2)) (hl : L[i]? = some (some (.long v))) (kk : ax_j X (pc + 2) L (.long v :: st) h k n) : ax_j X pc L st h k n := by
  obtain ⟨p, l, e, R, s, m, args, below, meth, c, Z, D, g⟩ := X
  exact fun H locs ls hR hS hL => lv_lload hX.1 hX.2.1 hd (hL.2.2 _ _ hl) (kk H locs ls hR hS hL)
/-- a reference, or null -/
def ax_isr (v : Value) : Prop := v = .null ∨ ∃ a, v = .ref a
theorem ax_aload_n (hX : ax_ok X M d) {i : Fin 4} {v : Value} (hd : decode M.2.1 pc = .ok (.aload_n i, 1)) (hv : ax_isr v) (hl : L[(i : Nat)]? = some (some v)) (kk : ax_j X (pc + 1) L (v :: st) h k n) : ax_j X pc L st h k n := by
  obtain ⟨p, l, e, R, s, m, args, below, meth, c, Z, D, g⟩ := X
  rcases hv with rfl | ⟨a, rfl⟩
  · exact fun H locs ls hR hS hL => lv_aload_nN hX.1 hX.2.1 hd rfl (hL.2.2 _ _ hl) (kk H locs ls hR hS hL)
  · exact fun H locs ls hR hS hL => lv_aload_n hX.1 hX.2.1 hd rfl (hL.2.2 _ _ hl) (kk H locs ls hR hS hL)
theorem ax_aload (hX : ax_ok X M d) {i : Nat} {v : Value} (hd : decode M.2.1 pc = .ok (.aload i, 2)) (hv : ax_isr v) (hl : L[i]? = some (some v)) (kk : ax_j X (pc + 2) L (v :: st) h k n) : ax_j X pc L st h k n := by
  obtain ⟨p, l, e, R, s, m, args, below, meth, c, Z, D, g⟩ := X
  rcases hv with rfl | ⟨a, rfl⟩
  · exact fun H locs ls hR hS hL => lv_aloadN hX.1 hX.2.1 hd (hL.2.2 _ _ hl) (kk H locs ls hR hS hL)
  · exact fun H locs ls hR hS hL => lv_aload hX.1 hX.2.1 hd (hL.2.2 _ _ hl) (kk H locs ls hR hS hL)
theorem ax_istore_n (hX : ax_ok X M d) {i : Fin 4} {v : Int32} {L' : List (Option Value)} (hd : decode M.2.1 pc = .ok (.istore_n i, 1)) (hi : (i : Nat) < M.2.2.1) (hl : ax_s1 L i (.int v) = L') (kk : ax_j X (pc + 1) L' st h k n) : ax_j X pc L (.int v :: st) h k n := by
  obtain ⟨p, l, e, R, s, m, args, below, meth, c, Z, D, g⟩ := X
  subst hl
  have hi : (i : Nat) < c.maxLocals := by rw [hX.2.2.1]; exact hi
  exact fun H locs ls hR hS hL => lv_istore_n hX.1 hX.2.1 hd rfl hL.has hi rfl (fun ls' h' => kk H locs ls' hR hS (hL.s1 (v := .int v) hi h'))
theorem ax_istore (hX : ax_ok X M d) {i : Nat} {v : Int32} {L' : List (Option Value)} (hd : decode M.2.1 pc = .ok (.istore i, 2)) (hi : i < M.2.2.1) (hl : ax_s1 L i (.int v) = L') (kk : ax_j X (pc + 2) L' st h k n) : ax_j X pc L (.int v :: st) h k n := by
  obtain ⟨p, l, e, R, s, m, args, below, meth, c, Z, D, g⟩ := X
  subst hl
  have hi : i < c.maxLocals := by rw [hX.2.2.1]; exact hi
  exact fun H locs ls hR hS hL => lv_istore hX.1 hX.2.1 hd hL.has hi rfl (fun ls' h' => kk H locs ls' hR hS (hL.s1 (v := .int v) hi h'))
theorem ax_lstore_n (hX : ax_ok X M d) {i : Fin 4} {v : Int64} {L' : List (Option Value)} (hd : decode M.2.1 pc = .ok (.lstore_n i, 1)) (hi : (i : Nat) + 1 < M.2.2.1) (hl : ax_s2 L i (.long v) = L') (kk : ax_j X (pc + 1) L' st h k n) : ax_j X pc L (.long v :: st) h k n := by
  obtain ⟨p, l, e, R, s, m, args, below, meth, c, Z, D, g⟩ := X
  subst hl
  have hi : (i : Nat) + 1 < c.maxLocals := by rw [hX.2.2.1]; exact hi
  exact fun H locs ls hR hS hL => lv_lstore_n hX.1 hX.2.1 hd rfl hL.has hi rfl (fun ls' h' => kk H locs ls' hR hS (hL.s2 (v := .long v) hi h'))
theorem ax_lstore (hX : ax_ok X M d) {i : Nat} {v : Int64} {L' : List (Option Value)} (hd : decode M.2.1 pc = .ok (.lstore i, 2)) (hi : i + 1 < M.2.2.1) (hl : ax_s2 L i (.long v) = L') (kk : ax_j X (pc + 2) L' st h k n) : ax_j X pc L (.long v :: st) h k n := by
  obtain ⟨p, l, e, R, s, m, args, below, meth, c, Z, D, g⟩ := X
  subst hl
  have hi : i + 1 < c.maxLocals := by rw [hX.2.2.1]; exact hi
  exact fun H locs ls hR hS hL => lv_lstore hX.1 hX.2.1 hd hL.has hi rfl (fun ls' h' => kk H locs ls' hR hS (hL.s2 (v := .long v) hi h'))
theorem ax_astore_n (hX : ax_ok X M d) {i : Fin 4} {v : Value} {L' : List (Option Value)} (hd : decode M.2.1 pc = .ok (.astore_n i, 1)) (hv : ax_isr v) (hi : (i : Nat) < M.2.2.1) (hl : ax_s1 L i v = L') (kk : ax_j X (pc + 1) L' st h k n) : ax_j X pc L (v :: st) h k n := by
  obtain ⟨p, l, e, R, s, m, args, below, meth, c, Z, D, g⟩ := X
  subst hl
  have hi : (i : Nat) < c.maxLocals := by rw [hX.2.2.1]; exact hi
  rcases hv with rfl | ⟨a, rfl⟩
  · exact fun H locs ls hR hS hL => lv_astore_nN hX.1 hX.2.1 hd rfl hL.has hi rfl (fun ls' h' => kk H locs ls' hR hS (hL.s1 (v := .null) hi h'))
  · exact fun H locs ls hR hS hL => lv_astore_n hX.1 hX.2.1 hd rfl hL.has hi rfl (fun ls' h' => kk H locs ls' hR hS (hL.s1 (v := .ref a) hi h'))
theorem ax_astore (hX : ax_ok X M d) {i : Nat} {v : Value} {L' : List (Option Value)} (hd : decode M.2.1 pc = .ok (.astore i, 2)) (hv : ax_isr v) (hi : i < M.2.2.1) (hl : ax_s1 L i v = L') (kk : ax_j X (pc + 2) L' st h k n) : ax_j X pc L (v :: st) h k n := by
  obtain ⟨p, l, e, R, s, m, args, below, meth, c, Z, D, g⟩ := X
  subst hl
  have hi : i < c.maxLocals := by rw [hX.2.2.1]; exact hi
  rcases hv with rfl | ⟨a, rfl⟩
  · exact fun H locs ls hR hS hL => lv_astoreN hX.1 hX.2.1 hd hL.has hi rfl (fun ls' h' => kk H locs ls' hR hS (hL.s1 (v := .null) hi h'))
  · exact fun H locs ls hR hS hL => lv_astore hX.1 hX.2.1 hd hL.has hi rfl (fun ls' h' => kk H locs ls' hR hS (hL.s1 (v := .ref a) hi h'))
theorem ax_iinc (hX : ax_ok X M d) {i : Nat} {a : Int} {v w : Int32} {L' : List (Option Value)} (hd : decode M.2.1 pc = .ok (.iinc i a, 3)) (hl0 : L[i]? = some (some (.int v))) (hw : v + Int32.ofInt a = w) (hi : i < M.2.2.1) (hl : ax_s1 L i (.int w) = L') (kk : ax_j X (pc + 3) L' st h k n) : ax_j X pc L st h k n := by
  obtain ⟨p, l, e, R, s, m, args, below, meth, c, Z, D, g⟩ := X
  subst hl
  have hi : i < c.maxLocals := by rw [hX.2.2.1]; exact hi
  refine fun H locs ls hR hS hL => ?_
  obtain ⟨q, hq⟩ := List.getElem?_of_mem (ax_pairs_mem (g := g) (q := (i, .int v)).mpr ⟨.int v, hl0, rfl⟩)
  exact lv_iinc hX.1 hX.2.1 hd hL.has hq hw hi rfl (fun ls' h' => kk H locs ls' hR hS (hL.s1 (v := .int w) hi h'))
theorem ax_iadd (hX : ax_ok X M d) {x y : Int32} (hd : decode M.2.1 pc = .ok (.iadd, 1)) (kk : ax_j X (pc + 1) L (.int (x + y) :: st) h k n) : ax_j X pc L (.int y :: .int x :: st) h k n := by
  obtain ⟨p, l, e, R, s, m, args, below, meth, c, Z, D, g⟩ := X
  exact fun H locs ls hR hS hL => lv_iadd hX.1 hX.2.1 hd (kk H locs ls hR hS hL)
theorem ax_isub (hX : ax_ok X M d) {x y : Int32} (hd : decode M.2.1 pc = .ok (.isub, 1)) (kk : ax_j X (pc + 1) L (.int (x - y) :: st) h k n) : ax_j X pc L (.int y :: .int x :: st) h k n := by
  obtain ⟨p, l, e, R, s, m, args, below, meth, c, Z, D, g⟩ := X
  exact fun H locs ls hR hS hL => lv_isub hX.1 hX.2.1 hd (kk H locs ls hR hS hL)
theorem ax_imul (hX : ax_ok X M d) {x y : Int32} (hd : decode M.2.1 pc = .ok (.imul, 1)) (kk : ax_j X (pc + 1) L (.int (x * y) :: st) h k n) : ax_j X pc L (.int y :: .int x :: st) h k n := by
  obtain ⟨p, l, e, R, s, m, args, below, meth, c, Z, D, g⟩ := X
  exact fun H locs ls hR hS hL => lv_imul hX.1 hX.2.1 hd (kk H locs ls hR hS hL)
theorem ax_iand (hX : ax_ok X M d) {x y : Int32} (hd : decode M.2.1 pc = .ok (.iand, 1)) (kk : ax_j X (pc + 1) L (.int (x &&& y) :: st) h k n) : ax_j X pc L (.int y :: .int x :: st) h k n := by
  obtain ⟨p, l, e, R, s, m, args, below, meth, c, Z, D, g⟩ := X
  exact fun H locs ls hR hS hL => lv_iand hX.1 hX.2.1 hd (kk H locs ls hR hS hL)
theorem ax_ior (hX : ax_ok X M d) {x y : Int32} (hd : decode M.2.1 pc = .ok (.ior, 1)) (kk : ax_j X (pc + 1) L (.int (x ||| y) :: st) h k n) : ax_j X pc L (.int y :: .int x :: st) h k n := by
  obtain ⟨p, l, e, R, s, m, args, below, meth, c, Z, D, g⟩ := X
  exact fun H locs ls hR hS hL => lv_ior hX.1 hX.2.1 hd (kk H locs ls hR hS hL)
theorem ax_ixor (hX : ax_ok X M d) {x y : Int32} (hd : decode M.2.1 pc = .ok (.ixor, 1)) (kk : ax_j X (pc + 1) L (.int (x ^^^ y) :: st) h k n) : ax_j X pc L (.int y :: .int x :: st) h k n := by
  obtain ⟨p, l, e, R, s, m, args, below, meth, c, Z, D, g⟩ := X
  exact fun H locs ls hR hS hL => lv_ixor hX.1 hX.2.1 hd (kk H locs ls hR hS hL)
theorem ax_ishl (hX : ax_ok X M d) {x y : Int32} (hd : decode M.2.1 pc = .ok (.ishl, 1)) (kk : ax_j X (pc + 1) L (.int (x <<< (y &&& 31)) :: st) h k n) : ax_j X pc L (.int y :: .int x :: st) h k n := by
  obtain ⟨p, l, e, R, s, m, args, below, meth, c, Z, D, g⟩ := X
  exact fun H locs ls hR hS hL => lv_ishl hX.1 hX.2.1 hd (kk H locs ls hR hS hL)
theorem ax_ishr (hX : ax_ok X M d) {x y : Int32} (hd : decode M.2.1 pc = .ok (.ishr, 1)) (kk : ax_j X (pc + 1) L (.int (x >>> (y &&& 31)) :: st) h k n) : ax_j X pc L (.int y :: .int x :: st) h k n := by
  obtain ⟨p, l, e, R, s, m, args, below, meth, c, Z, D, g⟩ := X
  exact fun H locs ls hR hS hL => lv_ishr hX.1 hX.2.1 hd (kk H locs ls hR hS hL)
theorem ax_idiv (hX : ax_ok X M d) {x y : Int32} (hd : decode M.2.1 pc = .ok (.idiv, 1)) (hy : ¬ y = 0) (kk : ax_j X (pc + 1) L (.int (x / y) :: st) h k n) : ax_j X pc L (.int y :: .int x :: st) h k n := by
  obtain ⟨p, l, e, R, s, m, args, below, meth, c, Z, D, g⟩ := X
  exact fun H locs ls hR hS hL => lv_idiv hX.1 hX.2.1 hd hy (kk H locs ls hR hS hL)
theorem ax_ladd (hX : ax_ok X M d) {x y : Int64} (hd : decode M.2.1 pc = .ok (.ladd, 1)) (kk : ax_j X (pc + 1) L (.long (x + y) :: st) h k n) : ax_j X pc L (.long y :: .long x :: st) h k n := by
  obtain ⟨p, l, e, R, s, m, args, below, meth, c, Z, D, g⟩ := X
  exact fun H locs ls hR hS hL => lv_ladd hX.1 hX.2.1 hd (kk H locs ls hR hS hL)
theorem ax_lsub (hX : ax_ok X M d) {x y : Int64} (hd : decode M.2.1 pc = .ok (.lsub, 1)) (kk : ax_j X (pc + 1) L (.long (x - y) :: st) h k n) : ax_j X pc L (.long y :: .long x :: st) h k n := by
  obtain ⟨p, l, e, R, s, m, args, below, meth, c, Z, D, g⟩ := X
  exact fun H locs ls hR hS hL => lv_lsub hX.1 hX.2.1 hd (kk H locs ls hR hS hL)
theorem ax_lmul (hX : ax_ok X M d) {x y : Int64} (hd : decode M.2.1 pc = .ok (.lmul, 1)) (kk : ax_j X (pc + 1) L (.long (x * y) :: st) h k n) : ax_j X pc L (.long y :: .long x :: st) h k n := by
  obtain ⟨p, l, e, R, s, m, args, below, meth, c, Z, D, g⟩ := X
  exact fun H locs ls hR hS hL => lv_lmul hX.1 hX.2.1 hd (kk H locs ls hR hS hL)
theorem ax_land (hX : ax_ok X M d) {x y : Int64} (hd : decode M.2.1 pc = .ok (.land, 1)) (kk : ax_j X (pc + 1) L (.long (x &&& y) :: st) h k n) : ax_j X pc L (.long y :: .long x :: st) h k n := by
  obtain ⟨p, l, e, R, s, m, args, below, meth, c, Z, D, g⟩ := X
  exact fun H locs ls hR hS hL => lv_land hX.1 hX.2.1 hd (kk H locs ls hR hS hL)
theorem ax_lor (hX : ax_ok X M d) {x y : Int64} (hd : decode M.2.1 pc = .ok (.lor, 1)) (kk : ax_j X (pc + 1) L (.long (x ||| y) :: st) h k n) : ax_j X pc L (.long y :: .long x :: st) h k n := by
  obtain ⟨p, l, e, R, s, m, args, below, meth, c, Z, D, g⟩ := X
  exact fun H locs ls hR hS hL => lv_lor hX.1 hX.2.1 hd (kk H locs ls hR hS hL)
theorem ax_lshl (hX : ax_ok X M d) {x : Int64} {y : Int32} (hd : decode M.2.1 pc = .ok (.lshl, 1)) (kk : ax_j X (pc + 1) L (.long (x <<< (y.toInt64 &&& 63)) :: st) h k n) : ax_j X pc L (.int y :: .long x :: st) h k n := by
  obtain ⟨p, l, e, R, s, m, args, below, meth, c, Z, D, g⟩ := X
  exact fun H locs ls hR hS hL => lv_lshl hX.1 hX.2.1 hd rfl (kk H locs ls hR hS hL)
theorem ax_lshr (hX : ax_ok X M d) {x : Int64} {y : Int32} (hd : decode M.2.1 pc = .ok (.lshr, 1)) (kk : ax_j X (pc + 1) L (.long (x >>> (y.toInt64 &&& 63)) :: st) h k n) : ax_j X pc L (.int y :: .long x :: st) h k n := by
  obtain ⟨p, l, e, R, s, m, args, below, meth, c, Z, D, g⟩ := X
  exact fun H locs ls hR hS hL => lv_lshr hX.1 hX.2.1 hd rfl (kk H locs ls hR hS hL)
theorem ax_lushr (hX : ax_ok X M d) {x : Int64} {y : Int32} (hd : decode M.2.1 pc = .ok (.lushr, 1)) (kk : ax_j X (pc + 1) L (.long ((x.toUInt64 >>> (y.toInt64.toUInt64 &&& Int64.toUInt64 63)).toInt64) :: st) h k n) : ax_j X pc L (.int y :: .long x :: st) h k n := by
  obtain ⟨p, l, e, R, s, m, args, below, meth, c, Z, D, g⟩ := X
  exact fun H locs ls hR hS hL => lv_lushr hX.1 hX.2.1 hd rfl (kk H locs ls hR hS hL)
theorem ax_i2l (hX : ax_ok X M d) {x : Int32} (hd : decode M.2.1 pc = .ok (.i2l, 1)) (kk : ax_j X (pc + 1) L (.long x.toInt64 :: st) h k n) : ax_j X pc L (.int x :: st) h k n := by
  obtain ⟨p, l, e, R, s, m, args, below, meth, c, Z, D, g⟩ := X
  exact fun H locs ls hR hS hL => lv_i2l hX.1 hX.2.1 hd rfl (kk H locs ls hR hS hL)
theorem ax_l2i (hX : ax_ok X M d) {x : Int64} (hd : decode M.2.1 pc = .ok (.l2i, 1)) (kk : ax_j X (pc + 1) L (.int x.toInt32 :: st) h k n) : ax_j X pc L (.long x :: st) h k n := by
  obtain ⟨p, l, e, R, s, m, args, below, meth, c, Z, D, g⟩ := X
  exact fun H locs ls hR hS hL => lv_l2i hX.1 hX.2.1 hd rfl (kk H locs ls hR hS hL)
theorem ax_i2b (hX : ax_ok X M d) {x : Int32} (hd : decode M.2.1 pc = .ok (.i2b, 1)) (kk : ax_j X (pc + 1) L (.int x.toInt8.toInt32 :: st) h k n) : ax_j X pc L (.int x :: st) h k n := by
  obtain ⟨p, l, e, R, s, m, args, below, meth, c, Z, D, g⟩ := X
  exact fun H locs ls hR hS hL => lv_i2b hX.1 hX.2.1 hd rfl (kk H locs ls hR hS hL)
theorem ax_dup (hX : ax_ok X M d) {v : Value} (hd : decode M.2.1 pc = .ok (.dup, 1)) (hv : v.category = 1) (kk : ax_j X (pc + 1) L (v :: v :: st) h k n) : ax_j X pc L (v :: st) h k n := by
  obtain ⟨p, l, e, R, s, m, args, below, meth, c, Z, D, g⟩ := X
  exact fun H locs ls hR hS hL => lv_dup hX.1 hX.2.1 hd ((ax_cat g v).trans hv) (kk H locs ls hR hS hL)
theorem ax_dup2 (hX : ax_ok X M d) {v w : Value} (hd : decode M.2.1 pc = .ok (.dup2, 1)) (hv : v.category = 1) (hw : w.category = 1) (kk : ax_j X (pc + 1) L (v :: w :: v :: w :: st) h k n) : ax_j X pc L (v :: w :: st) h k n := by
  obtain ⟨p, l, e, R, s, m, args, below, meth, c, Z, D, g⟩ := X
  exact fun H locs ls hR hS hL => lv_dup2_11 hX.1 hX.2.1 hd ((ax_cat g v).trans hv) ((ax_cat g w).trans hw) (kk H locs ls hR hS hL)
theorem ax_if_eq (hX : ax_ok X M d) {x : Int32} {off : Int} {tgt : Nat} (hd : decode M.2.1 pc = .ok (.ifCond .eq off, 3)) (ht : (pc : Int) + off = (tgt : Int)) (kt : x = 0 → ax_j X tgt L st h k n) (kf : ¬ x = 0 → ax_j X (pc + 3) L st h k n) : ax_j X pc L (.int x :: st) h k n := by
  obtain ⟨p, l, e, R, s, m, args, below, meth, c, Z, D, g⟩ := X
  exact fun H locs ls hR hS hL => lv_if_eq hX.1 hX.2.1 hd ht (fun q => kt q H locs ls hR hS hL) (fun q => kf q H locs ls hR hS hL)
theorem ax_icmp_eq (hX : ax_ok X M d) {x y : Int32} {off : Int} {tgt : Nat} (hd : decode M.2.1 pc = .ok (.if_icmp .eq off, 3)) (ht : (pc : Int) + off = (tgt : Int)) (kt : x = y → ax_j X tgt L st h k n) (kf : ¬ x = y → ax_j X (pc + 3) L st h k n) : ax_j X pc L (.int y :: .int x :: st) h k n := by
  obtain ⟨p, l, e, R, s, m, args, below, meth, c, Z, D, g⟩ := X
  exact fun H locs ls hR hS hL => lv_icmp_eq hX.1 hX.2.1 hd ht (fun q => kt q H locs ls hR hS hL) (fun q => kf q H locs ls hR hS hL)
theorem ax_if_ne (hX : ax_ok X M d) {x : Int32} {off : Int} {tgt : Nat} (hd : decode M.2.1 pc = .ok (.ifCond .ne off, 3)) (ht : (pc : Int) + off = (tgt : Int)) (kt : ¬ x = 0 → ax_j X tgt L st h k n) (kf : x = 0 → ax_j X (pc + 3) L st h k n) : ax_j X pc L (.int x :: st) h k n := by
  obtain ⟨p, l, e, R, s, m, args, below, meth, c, Z, D, g⟩ := X
  exact fun H locs ls hR hS hL => lv_if_ne hX.1 hX.2.1 hd ht (fun q => kt q H locs ls hR hS hL) (fun q => kf q H locs ls hR hS hL)
theorem ax_icmp_ne (hX : ax_ok X M d) {x y : Int32} {off : Int} {tgt : Nat} (hd : decode M.2.1 pc = .ok (.if_icmp .ne off, 3)) (ht : (pc : Int) + off = (tgt : Int)) (kt : ¬ x = y → ax_j X tgt L st h k n) (kf : x = y → ax_j X (pc + 3) L st h k n) : ax_j X pc L (.int y :: .int x :: st) h k n := by
  obtain ⟨p, l, e, R, s, m, args, below, meth, c, Z, D, g⟩ := X
  exact fun H locs ls hR hS hL => lv_icmp_ne hX.1 hX.2.1 hd ht (fun q => kt q H locs ls hR hS hL) (fun q => kf q H locs ls hR hS hL)
theorem ax_if_lt (hX : ax_ok X M d) {x : Int32} {off : Int} {tgt : Nat} (hd : decode M.2.1 pc = .ok (.ifCond .lt off, 3)) (ht : (pc : Int) + off = (tgt : Int)) (kt : x < 0 → ax_j X tgt L st h k n) (kf : ¬ x < 0 → ax_j X (pc + 3) L st h k n) : ax_j X pc L (.int x :: st) h k n := by
  obtain ⟨p, l, e, R, s, m, args, below, meth, c, Z, D, g⟩ := X
  exact fun H locs ls hR hS hL => lv_if_lt hX.1 hX.2.1 hd ht (fun q => kt q H locs ls hR hS hL) (fun q => kf q H locs ls hR hS hL)
theorem ax_icmp_lt (hX : ax_ok X M d) {x y : Int32} {off : Int} {tgt : Nat} (hd : decode M.2.1 pc = .ok (.if_icmp .lt off, 3)) (ht : (pc : Int) + off = (tgt : Int)) (kt : x < y → ax_j X tgt L st h k n) (kf : ¬ x < y → ax_j X (pc + 3) L st h k n) : ax_j X pc L (.int y :: .int x :: st) h k n := by
  obtain ⟨p, l, e, R, s, m, args, below, meth, c, Z, D, g⟩ := X
  exact fun H locs ls hR hS hL => lv_icmp_lt hX.1 hX.2.1 hd ht (fun q => kt q H locs ls hR hS hL) (fun q => kf q H locs ls hR hS hL)
theorem ax_if_ge (hX : ax_ok X M d) {x : Int32} {off : Int} {tgt : Nat} (hd : decode M.2.1 pc = .ok (.ifCond .ge off, 3)) (ht : (pc : Int) + off = (tgt : Int)) (kt : 0 ≤ x → ax_j X tgt L st h k n) (kf : ¬ 0 ≤ x → ax_j X (pc + 3) L st h k n) : ax_j X pc L (.int x :: st) h k n := by
  obtain ⟨p, l, e, R, s, m, args, below, meth, c, Z, D, g⟩ := X
  exact fun H locs ls hR hS hL => lv_if_ge hX.1 hX.2.1 hd ht (fun q => kt q H locs ls hR hS hL) (fun q => kf q H locs ls hR hS hL)
theorem ax_icmp_ge (hX : ax_ok X M d) {x y : Int32} {off : Int} {tgt : Nat} (hd : decode M.2.1 pc = .ok (.if_icmp .ge off, 3)) (ht : (pc : Int) + off = (tgt : Int)) (kt : y ≤ x → ax_j X tgt L st h k n) (kf : ¬ y ≤ x → ax_j X (pc + 3) L st h k n) : ax_j X pc L (.int y :: .int x :: st) h k n := by
  obtain ⟨p, l, e, R, s, m, args, below, meth, c, Z, D, g⟩ := X
  exact fun H locs ls hR hS hL => lv_icmp_ge hX.1 hX.2.1 hd ht (fun q => kt q H locs ls hR hS hL) (fun q => kf q H locs ls hR hS hL)
theorem ax_if_gt (hX : ax_ok X M d) {x : Int32} {off : Int} {tgt : Nat} (hd : decode M.2.1 pc = .ok (.ifCond .gt off, 3)) (ht : (pc : Int) + off = (tgt : Int)) (kt : 0 < x → ax_j X tgt L st h k n) (kf : ¬ 0 < x → ax_j X (pc + 3) L st h k n) : ax_j X pc L (.int x :: st) h k n := by
  obtain ⟨p, l, e, R, s, m, args, below, meth, c, Z, D, g⟩ := X
  exact fun H locs ls hR hS hL => lv_if_gt hX.1 hX.2.1 hd ht (fun q => kt q H locs ls hR hS hL) (fun q => kf q H locs ls hR hS hL)
theorem ax_icmp_gt (hX : ax_ok X M d) {x y : Int32} {off : Int} {tgt : Nat} (hd : decode M.2.1 pc = .ok (.if_icmp .gt off, 3)) (ht : (pc : Int) + off = (tgt : Int)) (kt : y < x → ax_j X tgt L st h k n) (kf : ¬ y < x → ax_j X (pc + 3) L st h k n) : ax_j X pc L (.int y :: .int x :: st) h k n := by
  obtain ⟨p, l, e, R, s, m, args, below, meth, c, Z, D, g⟩ := X
  exact fun H locs ls hR hS hL => lv_icmp_gt hX.1 hX.2.1 hd ht (fun q => kt q H locs ls hR hS hL) (fun q => kf q H locs ls hR hS hL)
theorem ax_if_le (hX : ax_ok X M d) {x : Int32} {off : Int} {tgt : Nat} (hd : decode M.2.1 pc = .ok (.ifCond .le off, 3)) (ht : (pc : Int) + off = (tgt : Int)) (kt : x ≤ 0 → ax_j X tgt L st h k n) (kf : ¬ x ≤ 0 → ax_j X (pc + 3) L st h k n) : ax_j X pc L (.int x :: st) h k n := by
  obtain ⟨p, l, e, R, s, m, args, below, meth, c, Z, D, g⟩ := X
  exact fun H locs ls hR hS hL => lv_if_le hX.1 hX.2.1 hd ht (fun q => kt q H locs ls hR hS hL) (fun q => kf q H locs ls hR hS hL)
theorem ax_icmp_le (hX : ax_ok X M d) {x y : Int32} {off : Int} {tgt : Nat} (hd : decode M.2.1 pc = .ok (.if_icmp .le off, 3)) (ht : (pc : Int) + off = (tgt : Int)) (kt : x ≤ y → ax_j X tgt L st h k n) (kf : ¬ x ≤ y → ax_j X (pc + 3) L st h k n) : ax_j X pc L (.int y :: .int x :: st) h k n := by
  obtain ⟨p, l, e, R, s, m, args, below, meth, c, Z, D, g⟩ := X
  exact fun H locs ls hR hS hL => lv_icmp_le hX.1 hX.2.1 hd ht (fun q => kt q H locs ls hR hS hL) (fun q => kf q H locs ls hR hS hL)
theorem ax_goto (hX : ax_ok X M d) {off : Int} {tgt : Nat} (hd : decode M.2.1 pc = .ok (.goto off, 3)) (ht : (pc : Int) + off = (tgt : Int)) (kk : ax_j X tgt L st h k n) : ax_j X pc L st h k n := by
  obtain ⟨p, l, e, R, s, m, args, below, meth, c, Z, D, g⟩ := X
  exact fun H locs ls hR hS hL => lv_goto hX.1 hX.2.1 hd ht (kk H locs ls hR hS hL)
end AXR
end
section
/-! rules over the abstract heap: arrays, objects, null, switches -/
abbrev ax_ia (t n : Nat) (a : Nat → Int32) : ax_C := .inl (t, n, fun j => .int (a j))
abbrev ax_la (n : Nat) (a : Nat → Int64) : ax_C := .inl (1, n, fun j => .long (a j))
abbrev ax_ra (t n : Nat) (a : Nat → Option Nat) : ax_C := .inl (t, n, fun j => va_rf (a j))
abbrev ax_ob (ci : Nat) (fs : Nat → Value) : ax_C := .inr (ci, fs)
theorem ax_at.store {D : va_G} {g : Nat → Nat} {U : State} {H H1 : Heap} {a t n i : Nat} {f : Nat → Value} {cell : Cell} {x : Value} (h1 : H[a]? = some cell) (h : ax_at D g U H a (.inl (t, n, f))) (e : H1[a]? = some (cell.setSlot i (ax_v g x))) (hi : i < n) : ax_at D g U H1 a (.inl (t, n, updV f i x)) := by
  obtain ⟨cell', q1, q2, q3, q4, q5, q6, q7⟩ := h
  cases h1.symm.trans q1
  refine ⟨_, e, q2, q3, q4, by rw [k2_slotsz]; exact q5, by rw [k2_slotsz]; exact q6, fun j hj => ?_⟩
  unfold Cell.setSlot updV
  by_cases hji : j = i
  · subst hji
    rw [if_pos rfl]
    have : j < cell.slots.size := by omega
    simp [this]
  · rw [if_neg hji]
    have := q7 j hj
    simp [Array.getElem?_setIfInBounds, Ne.symm hji, this]
theorem ax_nin {i : Int32} {n N : Nat} (h : vp_in i n) (hn : n ≤ N) : ¬ (i < 0 ∨ N ≤ i.toNatClampNeg) := fun q => q.elim (fun z => h (Or.inl z)) (fun z => h (Or.inr (by omega)))
theorem ax_inlt {i : Int32} {n : Nat} (h : vp_in i n) : i.toNatClampNeg < n := Nat.not_le.mp fun q => h (Or.inr q)
theorem ax_updI (a : Nat → Int32) (i : Nat) (x : Int32) : updV (fun j => .int (a j)) i (.int x) = fun j => .int (upd a i x j) := by
  funext j; unfold updV upd; split <;> rfl
theorem ax_updL (a : Nat → Int64) (i : Nat) (x : Int64) : updV (fun j => .long (a j)) i (.long x) = fun j => .long (vp_updL a i x j) := by
  funext j; unfold updV vp_updL; split <;> rfl
theorem ax_updR (a : Nat → Option Nat) (i : Nat) (x : Nat) : updV (fun j => va_rf (a j)) i (.ref x) = fun j => va_rf (va_up a i (some x) j) := by
  funext j; unfold updV va_up; split <;> rfl
section AXH
variable {X : ax_X} {M : ax_M} {d pc k n : Nat} {L : List (Option Value)} {st : List Value} {h : ax_H}
theorem ax_lcmp (hX : ax_ok X M d) {x y : Int64} (hd : decode M.2.1 pc = .ok (.lcmp, 1)) (kk : ax_j X (pc + 1) L (.int (lg_cmp x y) :: st) h k n) : ax_j X pc L (.long y :: .long x :: st) h k n := by
  obtain ⟨p, l, e, R, s, m, args, below, meth, c, Z, D, g⟩ := X
  exact fun H locs ls hR hS hL => W.lcmp hX.1 hX.2.1 hd (kk H locs ls hR hS hL)
theorem ax_ifnull (hX : ax_ok X M d) {r : Option Nat} {v : Value} {off : Int} {tgt : Nat} (hv : v = va_rf r) (hd : decode M.2.1 pc = .ok (.ifnull off, 3)) (ht : (pc : Int) + off = (tgt : Int)) (kt : r = none → ax_j X tgt L st h k n) (kf : ∀ a, r = some a → ax_j X (pc + 3) L st h k n) : ax_j X pc L (v :: st) h k n := by
  obtain ⟨p, l, e, R, s, m, args, below, meth, c, Z, D, g⟩ := X
  subst hv
  cases r with
  | none => exact fun H locs ls hR hS hL => lv_ifnullN hX.1 hX.2.1 hd ht (kt rfl H locs ls hR hS hL)
  | some a => exact fun H locs ls hR hS hL => lv_ifnull hX.1 hX.2.1 hd (kf a rfl H locs ls hR hS hL)
theorem ax_ifnonnull (hX : ax_ok X M d) {r : Option Nat} {v : Value} {off : Int} {tgt : Nat} (hv : v = va_rf r) (hd : decode M.2.1 pc = .ok (.ifnonnull off, 3)) (ht : (pc : Int) + off = (tgt : Int)) (kt : ∀ a, r = some a → ax_j X tgt L st h k n) (kf : r = none → ax_j X (pc + 3) L st h k n) : ax_j X pc L (v :: st) h k n := by
  obtain ⟨p, l, e, R, s, m, args, below, meth, c, Z, D, g⟩ := X
  subst hv
  cases r with
  | none => exact fun H locs ls hR hS hL => lv_ifnonnullN hX.1 hX.2.1 hd (kf rfl H locs ls hR hS hL)
  | some a => exact fun H locs ls hR hS hL => lv_ifnonnull hX.1 hX.2.1 hd ht (kt a rfl H locs ls hR hS hL)
theorem ax_lookup (hX : ax_ok X M d) {x : Int32} {dflt : Int} {ps : Array (Int × Int)} {len : Nat} {off : Int} {tgt : Nat} (hd : decode M.2.1 pc = .ok (.lookupswitch dflt ps, len)) (hp : (ps.toList.zip (ps.toList.drop 1)).all (fun (a, next) => a.1 < next.1) = true) (ho : Op.lookupswitch.offset ps.toList dflt x.toInt = off) (ht : (pc : Int) + off = (tgt : Int)) (kk : ax_j X tgt L st h k n) : ax_j X pc L (.int x :: st) h k n := by
  obtain ⟨p, l, e, R, s, m, args, below, meth, c, Z, D, g⟩ := X
  exact fun H locs ls hR hS hL => lv_lookup hX.1 hX.2.1 hd hp ho ht (kk H locs ls hR hS hL)
theorem ax_tableOut (hX : ax_ok X M d) {x : Int32} {dflt lo hi : Int} {offs : Array Int} {len : Nat} {tgt : Nat} (hd : decode M.2.1 pc = .ok (.tableswitch dflt lo hi offs, len)) (hx : x.toInt < lo ∨ hi < x.toInt) (ht : (pc : Int) + dflt = (tgt : Int)) (kk : ax_j X tgt L st h k n) : ax_j X pc L (.int x :: st) h k n := by
  obtain ⟨p, l, e, R, s, m, args, below, meth, c, Z, D, g⟩ := X
  exact fun H locs ls hR hS hL => lv_tableOut hX.1 hX.2.1 hd hx ht (kk H locs ls hR hS hL)
theorem ax_tableIn (hX : ax_ok X M d) {x : Int32} {dflt lo hi : Int} {offs : Array Int} {len : Nat} {off : Int} {tgt : Nat} (hd : decode M.2.1 pc = .ok (.tableswitch dflt lo hi offs, len)) (h1 : ¬ x.toInt < lo) (h2 : ¬ hi < x.toInt) (ho : offs[(x.toInt - lo).toNat]? = some off) (ht : (pc : Int) + off = (tgt : Int)) (kk : ax_j X tgt L st h k n) : ax_j X pc L (.int x :: st) h k n := by
  obtain ⟨p, l, e, R, s, m, args, below, meth, c, Z, D, g⟩ := X
  exact fun H locs ls hR hS hL => lv_tableIn hX.1 hX.2.1 hd h1 h2 ho ht (kk H locs ls hR hS hL)
theorem ax_iaload (hX : ax_ok X M d) {a N : Nat} {f : Nat → Int32} {i : Int32} (hh : h.2 a = ax_ia 0 N f) (hi : vp_in i N) (hd : decode M.2.1 pc = .ok (.iaload, 1)) (kk : ax_j X (pc + 1) L (.int (f i.toNatClampNeg) :: st) h k n) : ax_j X pc L (.int i :: .ref a :: st) h k n := by
  obtain ⟨p, l, e, R, s, m, args, below, meth, c, Z, D, g⟩ := X
  refine fun H locs ls hR hS hL => ?_
  have hc := hR.2.2 a (by rw [hh]; exact (by decide : 0 < 6))
  rw [hh] at hc
  obtain ⟨cell, q1, q2, q3, q4, q5, q6, q7⟩ := hc
  exact W.iald hX.1 hX.2.1 q1 q2 q3 (ax_nin hi q5) (q7 _ (ax_inlt hi)) rfl rfl hd (kk H locs ls hR hS hL)
theorem ax_laload (hX : ax_ok X M d) {a N : Nat} {f : Nat → Int64} {i : Int32} (hh : h.2 a = ax_la N f) (hi : vp_in i N) (hd : decode M.2.1 pc = .ok (.laload, 1)) (kk : ax_j X (pc + 1) L (.long (f i.toNatClampNeg) :: st) h k n) : ax_j X pc L (.int i :: .ref a :: st) h k n := by
  obtain ⟨p, l, e, R, s, m, args, below, meth, c, Z, D, g⟩ := X
  refine fun H locs ls hR hS hL => ?_
  have hc := hR.2.2 a (by rw [hh]; exact (by decide : 1 < 6))
  rw [hh] at hc
  obtain ⟨cell, q1, q2, q3, q4, q5, q6, q7⟩ := hc
  exact W.lald hX.1 hX.2.1 q1 q2 q3 (ax_nin hi q5) (q7 _ (ax_inlt hi)) rfl rfl hd (kk H locs ls hR hS hL)
theorem ax_baload (hX : ax_ok X M d) {a N : Nat} {f : Nat → Int32} {i : Int32} (hh : h.2 a = ax_ia 2 N f) (hi : vp_in i N) (hd : decode M.2.1 pc = .ok (.baload, 1)) (kk : ax_j X (pc + 1) L (.int (f i.toNatClampNeg) :: st) h k n) : ax_j X pc L (.int i :: .ref a :: st) h k n := by
  obtain ⟨p, l, e, R, s, m, args, below, meth, c, Z, D, g⟩ := X
  refine fun H locs ls hR hS hL => ?_
  have hc := hR.2.2 a (by rw [hh]; exact (by decide : 2 < 6))
  rw [hh] at hc
  obtain ⟨cell, q1, q2, q3, q4, q5, q6, q7⟩ := hc
  exact W.bald hX.1 hX.2.1 q1 q2 q3 (ax_nin hi q5) (q7 _ (ax_inlt hi)) rfl rfl hd (kk H locs ls hR hS hL)
theorem ax_zaload (hX : ax_ok X M d) {a N : Nat} {f : Nat → Int32} {i : Int32} (hh : h.2 a = ax_ia 3 N f) (hi : vp_in i N) (hd : decode M.2.1 pc = .ok (.baload, 1)) (kk : ax_j X (pc + 1) L (.int (f i.toNatClampNeg) :: st) h k n) : ax_j X pc L (.int i :: .ref a :: st) h k n := by
  obtain ⟨p, l, e, R, s, m, args, below, meth, c, Z, D, g⟩ := X
  refine fun H locs ls hR hS hL => ?_
  have hc := hR.2.2 a (by rw [hh]; exact (by decide : 3 < 6))
  rw [hh] at hc
  obtain ⟨cell, q1, q2, q3, q4, q5, q6, q7⟩ := hc
  exact W.zald hX.1 hX.2.1 q1 q2 q3 (ax_nin hi q5) (q7 _ (ax_inlt hi)) rfl rfl hd (kk H locs ls hR hS hL)
theorem ax_aaload (hX : ax_ok X M d) {a t N : Nat} {f : Nat → Option Nat} {i : Int32} {v : Value} (hh : h.2 a = ax_ra t N f) (ht : t = 4 ∨ t = 5) (hi : vp_in i N) (hv : va_rf (f i.toNatClampNeg) = v) (hd : decode M.2.1 pc = .ok (.aaload, 1)) (kk : ax_j X (pc + 1) L (v :: st) h k n) : ax_j X pc L (.int i :: .ref a :: st) h k n := by
  obtain ⟨p, l, e, R, s, m, args, below, meth, c, Z, D, g⟩ := X
  subst hv
  refine fun H locs ls hR hS hL => ?_
  have hc := hR.2.2 a (by rw [hh]; show t < 6; omega)
  rw [hh] at hc
  obtain ⟨cell, q1, q2, q3, q4, q5, q6, q7⟩ := hc
  exact W.aald hX.1 hX.2.1 q1 q2 (by rcases ht with rfl | rfl <;> rfl) q3 (ax_nin hi q5) (q7 _ (ax_inlt hi)) rfl rfl hd (kk H locs ls hR hS hL)
theorem ax_alen (hX : ax_ok X M d) {a t N : Nat} {f : Nat → Value} (hh : h.2 a = .inl (t, N, f)) (ht : t < 6) (hd : decode M.2.1 pc = .ok (.arraylength, 1)) (kk : ax_j X (pc + 1) L (.int (nI N) :: st) h k n) : ax_j X pc L (.ref a :: st) h k n := by
  obtain ⟨p, l, e, R, s, m, args, below, meth, c, Z, D, g⟩ := X
  refine fun H locs ls hR hS hL => ?_
  have hc := hR.2.2 a (by rw [hh]; exact ht)
  rw [hh] at hc
  obtain ⟨cell, q1, q2, q3, q4, q5, q6, q7⟩ := hc
  exact W.alen hX.1 hX.2.1 q1 q2 q6 rfl rfl hd (kk H locs ls hR hS hL)
theorem ax_iastore (hX : ax_ok X M d) {a N : Nat} {f : Nat → Int32} {i x : Int32} (hh : h.2 a = ax_ia 0 N f) (ha : 2 ≤ a) (hi : vp_in i N) (hd : decode M.2.1 pc = .ok (.iastore, 1)) (kk : ax_j X (pc + 1) L st (h.1, va_up h.2 a (ax_ia 0 N (upd f i.toNatClampNeg x))) k n) : ax_j X pc L (.int x :: .int i :: .ref a :: st) h k n := by
  obtain ⟨p, l, e, R, s, m, args, below, meth, c, Z, D, g⟩ := X
  refine fun H locs ls hR hS hL => ?_
  have hG : ax_G g := hX.2.2.2.2.2.2.2.2.2.1
  have hc := hR.2.2 a (by rw [hh]; exact (by decide : 0 < 6))
  rw [hh] at hc
  have hc0 := hc
  obtain ⟨cell, q1, q2, q3, q4, q5, q6, q7⟩ := hc
  refine W.iast hX.1 hX.2.1 q1 q2 q3 (ax_nin hi q5) rfl rfl hd fun H1 e1 z oq => kk H1 _ ls (hR.set hG ha z oq ?_) (hS.put z oq (hG.ge ha)) hL
  have := ax_at.store (x := .int x) q1 hc0 e1 (ax_inlt hi)
  rwa [ax_updI] at this
theorem ax_lastore (hX : ax_ok X M d) {a N : Nat} {f : Nat → Int64} {i : Int32} {x : Int64} (hh : h.2 a = ax_la N f) (ha : 2 ≤ a) (hi : vp_in i N) (hd : decode M.2.1 pc = .ok (.lastore, 1)) (kk : ax_j X (pc + 1) L st (h.1, va_up h.2 a (ax_la N (vp_updL f i.toNatClampNeg x))) k n) : ax_j X pc L (.long x :: .int i :: .ref a :: st) h k n := by
  obtain ⟨p, l, e, R, s, m, args, below, meth, c, Z, D, g⟩ := X
  refine fun H locs ls hR hS hL => ?_
  have hG : ax_G g := hX.2.2.2.2.2.2.2.2.2.1
  have hc := hR.2.2 a (by rw [hh]; exact (by decide : 1 < 6))
  rw [hh] at hc
  have hc0 := hc
  obtain ⟨cell, q1, q2, q3, q4, q5, q6, q7⟩ := hc
  refine W.last hX.1 hX.2.1 q1 q2 q3 (ax_nin hi q5) rfl rfl hd fun H1 e1 z oq => kk H1 _ ls (hR.set hG ha z oq ?_) (hS.put z oq (hG.ge ha)) hL
  have := ax_at.store (x := .long x) q1 hc0 e1 (ax_inlt hi)
  rwa [ax_updL] at this
theorem ax_bastore (hX : ax_ok X M d) {a N : Nat} {f : Nat → Int32} {i x : Int32} (hh : h.2 a = ax_ia 2 N f) (ha : 2 ≤ a) (hi : vp_in i N) (hd : decode M.2.1 pc = .ok (.bastore, 1)) (kk : ax_j X (pc + 1) L st (h.1, va_up h.2 a (ax_ia 2 N (upd f i.toNatClampNeg x.toInt8.toInt32))) k n) : ax_j X pc L (.int x :: .int i :: .ref a :: st) h k n := by
  obtain ⟨p, l, e, R, s, m, args, below, meth, c, Z, D, g⟩ := X
  refine fun H locs ls hR hS hL => ?_
  have hG : ax_G g := hX.2.2.2.2.2.2.2.2.2.1
  have hc := hR.2.2 a (by rw [hh]; exact (by decide : 2 < 6))
  rw [hh] at hc
  have hc0 := hc
  obtain ⟨cell, q1, q2, q3, q4, q5, q6, q7⟩ := hc
  refine W.bast hX.1 hX.2.1 q1 q2 q3 (ax_nin hi q5) rfl rfl hd fun H1 e1 z oq => kk H1 _ ls (hR.set hG ha z oq ?_) (hS.put z oq (hG.ge ha)) hL
  have := ax_at.store (x := .int x.toInt8.toInt32) q1 hc0 e1 (ax_inlt hi)
  rwa [ax_updI] at this
theorem ax_zastore (hX : ax_ok X M d) {a N : Nat} {f : Nat → Int32} {i x : Int32} (hh : h.2 a = ax_ia 3 N f) (ha : 2 ≤ a) (hi : vp_in i N) (hd : decode M.2.1 pc = .ok (.bastore, 1)) (kk : ax_j X (pc + 1) L st (h.1, va_up h.2 a (ax_ia 3 N (upd f i.toNatClampNeg (x &&& 1)))) k n) : ax_j X pc L (.int x :: .int i :: .ref a :: st) h k n := by
  obtain ⟨p, l, e, R, s, m, args, below, meth, c, Z, D, g⟩ := X
  refine fun H locs ls hR hS hL => ?_
  have hG : ax_G g := hX.2.2.2.2.2.2.2.2.2.1
  have hc := hR.2.2 a (by rw [hh]; exact (by decide : 3 < 6))
  rw [hh] at hc
  have hc0 := hc
  obtain ⟨cell, q1, q2, q3, q4, q5, q6, q7⟩ := hc
  refine W.zast hX.1 hX.2.1 q1 q2 q3 (ax_nin hi q5) rfl rfl hd fun H1 e1 z oq => kk H1 _ ls (hR.set hG ha z oq ?_) (hS.put z oq (hG.ge ha)) hL
  have := ax_at.store (x := .int (x &&& 1)) q1 hc0 e1 (ax_inlt hi)
  rwa [ax_updI] at this
theorem ax_aastore (hX : ax_ok X M d) {a t N v ci : Nat} {f : Nat → Option Nat} {fs : Nat → Value} {i : Int32} {r : vw_C} (hh : h.2 a = ax_ra t N f) (ha : 2 ≤ a) (ht : t = 4 ∨ t = 5) (hv : h.2 v = ax_ob ci fs) (hc : vwCl[ci]? = some r) (hr : ax_ty t = .object r.1) (hi : vp_in i N) (hd : decode M.2.1 pc = .ok (.aastore, 1)) (kk : ax_j X (pc + 1) L st (h.1, va_up h.2 a (ax_ra t N (va_up f i.toNatClampNeg (some v)))) k n) : ax_j X pc L (.ref v :: .int i :: .ref a :: st) h k n := by
  obtain ⟨p, l, e, R, s, m, args, below, meth, c, Z, D, g⟩ := X
  refine fun H locs ls hR hS hL => ?_
  have hG : ax_G g := hX.2.2.2.2.2.2.2.2.2.1
  have hK : va_K D vwCl [] s := hX.2.2.2.2.2.2.2.2.1.1
  have hca := hR.2.2 a (by rw [hh]; show t < 6; omega)
  rw [hh] at hca
  have hc0 := hca
  obtain ⟨cell, q1, q2, q3, q4, q5, q6, q7⟩ := hca
  have hlt := ax_inlt hi
  have hcv := hR.2.2 v (by rw [hv]; show ci < 12; exact (List.getElem?_eq_some_iff.mp hc).1)
  rw [hv] at hcv
  obtain ⟨r', hr', cellV, g1, g2, g3, -⟩ := hcv
  have hcls := (hK.1 ci r hc).2
  have hra := q4 (by omega)
  rw [hr] at hra
  obtain ⟨kA, comp, k1, k2, k3, -⟩ := hra
  have hcomp : comp = D.1 ci := Option.some.inj (k3.symm.trans hcls.1)
  subst hcomp
  have hcls2 := hcls
  obtain ⟨kC, hkC, -⟩ := hcls.2
  refine W.aast hX.1 hX.2.1 q1 q2.1 q3 k1 k2 rfl hkC ⟨fun q => hi (Or.inl q), by omega⟩ g1 (fun q h => by rw [g3] at h; cases h) (by rw [g2]; exact hkC) (by rw [g2]; exact va_assign hcls2) rfl rfl hd fun H1 e1 z oq => kk H1 _ ls (hR.set hG ha z oq ?_) (hS.put z oq (hG.ge ha)) hL
  have := ax_at.store (x := .ref v) q1 hc0 e1 (ax_inlt hi)
  rwa [ax_updR] at this
/-- a class of the tables, by its number -/
def ax_cls (ci : Nat) (C : String) (T : u_T) (N : Nat) (ty : Nat → FieldType) : Prop := vwCl[ci]? = some (C, T, N) ∧ (∀ w ∈ u_ws C T N, w ∈ ax_ws) ∧ (∀ k, k < N → parseFieldDescriptor (T k).2.2.1 = some (ty k)) ∧ (∀ a, a < N → ∀ b, b < N → a ≠ b → (T a).2.1 ≠ (T b).2.1)
/-- what links a field: the entry idx of class own is field fi of class ci, of type fty, final or not -/
def ax_FW (own : String) (idx ci fi : Nat) (fty : FieldType) (fin : Bool) (C : String) : Prop := ∃ (T : u_T) (N : Nat) (ty : Nat → FieldType), ax_cls ci C T N ty ∧ fi < N ∧ (T fi).1 = C ∧ ty fi = fty ∧ (T fi).2.2.2 = fin ∧ Cond.fieldLink own idx C (T fi).2.1 (T fi).2.2.1 ∈ ax_ws
theorem ax_getf (hX : ax_ok X M d) {a ci fi idx : Nat} {fs : Nat → Value} {fty : FieldType} {fin : Bool} {C : String} {v : Value} (hw : ax_FW M.1.cls idx ci fi fty fin C) (hh : h.2 a = ax_ob ci fs) (hv : fs fi = v) (hd : decode M.2.1 pc = .ok (.getfield idx, 3)) (kk : ax_j X (pc + 3) L (v :: st) h k n) : ax_j X pc L (.ref a :: st) h k n := by
  obtain ⟨p, l, e, R, s, m, args, below, meth, c, Z, D, g⟩ := X
  subst hv
  refine fun H locs ls hR hS hL => ?_
  obtain ⟨T, N, ty, ⟨hc, hin, hty, hnm⟩, hfi, hTC, hft, hfin, hlink⟩ := hw
  have hK : va_K D vwCl [] s := hX.2.2.2.2.2.2.2.2.1.1
  have hts := hX.2.2.2.2.2.1
  have hca := hR.2.2 a (by rw [hh]; show ci < 12; exact (List.getElem?_eq_some_iff.mp hc).1)
  rw [hh] at hca
  obtain ⟨r, h1, cell, q1, q2, q3, q4⟩ := hca
  have hr : r = (C, T, N) := Option.some.inj (h1.symm.trans hc)
  subst hr
  obtain ⟨hSl, hfc, kC, hkC, hkind⟩ := hK.1 ci _ hc
  obtain ⟨cf, kf, ii, f, hi, hsl⟩ := hSl fi hfi
  have hi' := hi
  dsimp only at hi'
  rw [hTC] at hi'
  refine W.getf hX.1 hX.2.1 hX.2.2.2.2.1 (hts _ hlink) hi' (u_facts hfc hkC (u_lays hts hin hfi) hi).1 q1 (by rw [q3]; exact fun h => by cases h) (v := ax_v g (fs fi)) ?_ rfl rfl hd (kk H locs ls hR hS hL)
  rw [hsl, q4 fi hfi]
theorem ax_vty {g : Nat → Nat} {ty : FieldType} {v : Value} (hn : narrow ty v = v) (hf : fits ty v = true) : narrow ty (ax_v g v) = ax_v g v ∧ fits ty (ax_v g v) = true := by
  cases v with
  | ref a => cases ty <;> first | exact ⟨rfl, rfl⟩ | exact absurd hf (by simp [fits])
  | _ => exact ⟨hn, hf⟩
theorem ax_vup {g : Nat → Nat} (fs : Nat → Value) (fi : Nat) (v : Value) (j : Nat) : updV (fun k => ax_v g (fs k)) fi (ax_v g v) j = ax_v g (va_up fs fi v j) := by
  unfold updV va_up; split <;> rfl
theorem ax_putf (hX : ax_ok X M d) {a ci fi idx : Nat} {fs : Nat → Value} {fty : FieldType} {C : String} {v : Value} (hw : ax_FW M.1.cls idx ci fi fty false C) (hh : h.2 a = ax_ob ci fs) (ha : 2 ≤ a) (hn : narrow fty v = v) (hf : fits fty v = true) (hd : decode M.2.1 pc = .ok (.putfield idx, 3)) (kk : ax_j X (pc + 3) L st (h.1, va_up h.2 a (ax_ob ci (va_up fs fi v))) k n) : ax_j X pc L (v :: .ref a :: st) h k n := by
  obtain ⟨p, l, e, R, s, m, args, below, meth, c, Z, D, g⟩ := X
  refine fun H locs ls hR hS hL => ?_
  obtain ⟨T, N, ty, ⟨hc, hin, hty, hnm⟩, hfi, hTC, hft, hfin, hlink⟩ := hw
  have hG : ax_G g := hX.2.2.2.2.2.2.2.2.2.1
  have hK : va_K D vwCl [] s := hX.2.2.2.2.2.2.2.2.1.1
  have hts := hX.2.2.2.2.2.1
  have hca := hR.2.2 a (by rw [hh]; show ci < 12; exact (List.getElem?_eq_some_iff.mp hc).1)
  rw [hh] at hca
  obtain ⟨r, h1, cell, q1, q2, q3, q4⟩ := hca
  have hr : r = (C, T, N) := Option.some.inj (h1.symm.trans hc)
  subst hr
  have hap := va_apart (own := C) hts hin ty hty hnm hK hc
  obtain ⟨hSl, hfc, kC, hkC, hkind⟩ := hK.1 ci _ hc
  obtain ⟨cf, kf, ii, f, hi, hsl⟩ := hSl fi hfi
  have hi' := hi
  dsimp only at hi'
  rw [hTC] at hi'
  have hlay := hts _ (hin _ (u_in_lay hfi))
  unfold u_lay at hlay
  rw [if_neg (by rw [hfin]; decide)] at hlay
  have hst := (u_facts hfc hkC (u_lays hts hin hfi) hi).1
  have hvt := ax_vty (g := g) hn hf
  have h6 := u_store hfc hkC hkind hlay hi ((hty fi hfi).trans (by rw [hft])) hvt.1 hvt.2
  refine W.putK hX.1 hX.2.1 (f := f) ⟨hX.2.2.2.2.1, hts _ hlink, ⟨_, _, _, hi'⟩, hst⟩ (by rw [q2]; exact h6) q1 q3 (by rw [hsl]; exact k2_hasslot (q4 fi hfi)) rfl rfl hd fun H1 e1 z oq => ?_
  rw [hsl] at e1 ⊢
  exact kk H1 _ ls (hR.set hG ha z oq ⟨_, hc, t_OB.to (V := updV (fun k => ax_v g (fs k)) fi (ax_v g v)) ⟨_, e1, q2, q3, t_set q4 hap hfi _⟩ (fun j _ => ax_vup fs fi v j)⟩) (hS.put z oq (hG.ge ha)) hL
theorem ax_putF (hX : ax_ok X M d) {a ci fi idx : Nat} {fs : Nat → Value} {fty : FieldType} {v : Value} (hw : ax_FW M.1.cls idx ci fi fty true M.1.cls) (hini : M.1.name = "<init>") (hh : h.2 a = ax_ob ci fs) (ha : 2 ≤ a) (hn : narrow fty v = v) (hf : fits fty v = true) (hd : decode M.2.1 pc = .ok (.putfield idx, 3)) (kk : ax_j X (pc + 3) L st (h.1, va_up h.2 a (ax_ob ci (va_up fs fi v))) k n) : ax_j X pc L (v :: .ref a :: st) h k n := by
  obtain ⟨p, l, e, R, s, m, args, below, meth, c, Z, D, g⟩ := X
  refine fun H locs ls hR hS hL => ?_
  obtain ⟨T, N, ty, ⟨hc, hin, hty, hnm⟩, hfi, hTC, hft, hfin, hlink⟩ := hw
  have hG : ax_G g := hX.2.2.2.2.2.2.2.2.2.1
  have hK : va_K D vwCl [] s := hX.2.2.2.2.2.2.2.2.1.1
  have hts := hX.2.2.2.2.2.1
  have hca := hR.2.2 a (by rw [hh]; show ci < 12; exact (List.getElem?_eq_some_iff.mp hc).1)
  rw [hh] at hca
  obtain ⟨r, h1, cell, q1, q2, q3, q4⟩ := hca
  have hr : r = (M.1.cls, T, N) := Option.some.inj (h1.symm.trans hc)
  subst hr
  have hap := va_apart (own := M.1.cls) hts hin ty hty hnm hK hc
  obtain ⟨hSl, hfc, kC, hkC, hkind⟩ := hK.1 ci _ hc
  obtain ⟨cf, kf, ii, f, hi, hsl⟩ := hSl fi hfi
  have hi' := hi
  dsimp only at hi'
  rw [hTC] at hi'
  have hlay := hts _ (hin _ (u_in_lay hfi))
  unfold u_lay at hlay
  rw [if_pos hfin] at hlay
  have hst := (u_facts hfc hkC (u_lays hts hin hfi) hi).1
  have hcf : m.cls = cf := by
    obtain ⟨_, _, c', _, _, _, -, -, hf', -, -, -, hown2, -⟩ := Cond.laysFinal_spec hlay
    have e1 : c' = cf := by have := hi.symm.trans hf'; simp at this; exact this.1.symm
    rw [hTC] at hown2
    rw [← e1]; exact Option.some.inj (hX.2.2.2.2.1.symm.trans hown2)
  have hvt := ax_vty (g := g) hn hf
  have h6 := u_fits hfc hkC hkind (Or.inr hlay) hi ((hty fi hfi).trans (by rw [hft])) hvt.1 hvt.2
  refine W.putFinK hX.1 hX.2.1 hX.2.2.2.2.1 (hts _ hlink) hi' hst hcf (hX.2.2.2.2.2.2.2.1.trans hini) (by rw [q2]; exact h6) q1 q3 (by rw [hsl]; exact k2_hasslot (q4 fi hfi)) rfl rfl hd fun H1 e1 z oq => ?_
  rw [hsl] at e1 ⊢
  exact kk H1 _ ls (hR.set hG ha z oq ⟨_, hc, t_OB.to (V := updV (fun k => ax_v g (fs k)) fi (ax_v g v)) ⟨_, e1, q2, q3, t_set q4 hap hfi _⟩ (fun j _ => ax_vup fs fi v j)⟩) (hS.put z oq (hG.ge ha)) hL
end AXH
end
section
/-! rules: making, statics, calls, answers, entry -/
theorem ax_nw.same {w : Cond} {u U : State} (h : u.vm = U.vm) (hw : ax_nw w u) : ax_nw w U := by
  cases w with
  | fieldLinkNest a i b n d h' => exact va_Nw.same rfl h hw
  | methodLinkNest a i x h' => exact va_Nw.same rfl h hw
  | arrayOver ty =>
    cases ty with
    | object C => exact va_AO.moved (by rw [h]; exact Vm.Alike.refl _) hw
    | _ => exact trivial
  | _ => exact trivial
theorem ax_T.same {D : va_G} {g : Nat → Nat} {u U : State} (h : u.vm = U.vm) (hh : u.heap = U.heap) (hT : ax_T D g u) : ax_T D g U :=
  ⟨va_K.moved (by rw [h]; exact Vm.Alike.refl _) hT.1, fun w hw => (hT.2.1 w hw).same h, by rw [← hh]; exact va_Z.moved (by rw [h]; exact Vm.Alike.refl _) hT.2.2⟩
def ax_Pc (D : va_G) (g : Nat → Nat) (A : List Value) (h : ax_H) : Array Value → State → Prop := fun v U => v = (A.map (ax_v g)).toArray ∧ ax_R D g U h U.heap ∧ ax_T D g U
def ax_Qc (D : va_G) (g : Nat → Nat) (Q : Option Value → ax_H → Prop) : Array Value → State → Outcome → State → Prop := fun _ st o t => (∃ (r : Option Value) (h' : ax_H), o = .returned (r.map (ax_v g)) ∧ Q r h' ∧ ax_R D g t h' t.heap) ∧ va_F (fun q => g 2 ≤ q) st t
/-- method M, called with A over the heap h, ends with Q of its answer and the heap behind it -/
def ax_K (d : Nat) (M : ax_M) (A : List Value) (h : ax_H) (Q : Option Value → ax_H → Prop) : Prop :=
  ∀ (l : Launch) (D : va_G) (g : Nat → Nat), ax_G g → Met l M.1 (.code M.1 M.2.1 M.2.2.1 M.2.2.2.1 :: ax_ws) (ax_rm d M) (ax_Pc D g A h) (ax_Qc D g Q) M.2.2.2.2.1 M.2.2.2.2.2 (fun q => g 2 ≤ q)
theorem ax_blind (D : va_G) (g : Nat → Nat) (A : List Value) (h : ax_H) : FrameBlind (ax_Pc D g A h) := fun a U g' mk q =>
  ⟨q.1, ax_R.moved (u := U) (U := U.calling g' mk a) (Vm.Alike.refl U.vm) q.2.1, ax_T.same (u := U) (U := U.calling g' mk a) rfl rfl q.2.2⟩
theorem ax_good {w : Cond} (hw : w ∈ ax_ws) : GoodIn ax_ws (w :: ax_ws) := by
  have key : ∀ x ∈ ax_ws, x ∈ ax_ws ∧ ((x.onTables && x.keeps) = true ∨ ∃ ty, x = .arrayClass ty) := fun x hx => ⟨hx, good_of_word (List.mem_filter.mp hx).2⟩
  intro x hx
  rcases List.mem_cons.mp hx with rfl | hx
  · exact key _ hw
  · exact key _ hx
/-- what every call of M wants: its class is there, its code, so many parameters -/
def ax_CW (M : ax_M) (np : Nat) : Prop := Cond.initialized M.1.cls ∈ ax_ws ∧ Cond.code M.1 M.2.1 M.2.2.1 M.2.2.2.1 ∈ ax_ws ∧ (M.1.cls ≠ "java/lang/invoke/MethodHandle" ∧ M.1.cls ≠ "java/lang/invoke/VarHandle" ∧ (parseMethodDescriptor M.1.desc).map (fun d => d.parameters.length) = some np) ∧ M.2.2.1 ≤ 45
section AXC
variable {p : Program} {l : Launch} {e : Env} {R : Room} {s : State} {m : MethodId} {args : Array Value} {below : List Frame} {meth : Method} {c : Code} {H : Heap} {locs : List Loc} {k n : Nat} {Z : State → Prop} {D : va_G} {g : Nat → Nat}
theorem ax_run {mc ms pc : Nat} {ls : Array Slot} {st0 rest : List Value} {a : Array Value} {Q : Option Value → ax_H → Prop} (hr : va_Run p l e R s m args below meth c H locs k n mc ms (F0 m pc ls st0) rest (ax_Qc D g Q a) (fun q => g 2 ≤ q)) (hS : va_S (fun q => g 2 ≤ q) s.heap H locs)
    (kk : ∀ (r : Option Value) (h' : ax_H) (H1 : Heap) (locs1 : List Loc), Q r h' → ax_R D g s h' H1 → va_S (fun q => g 2 ≤ q) s.heap H1 locs1 → W p l e R s m args below meth c H1 locs1 (k + mc) (n + ms) Z (F0 m (pc + 3) ls ((r.map (ax_v g)).toList ++ rest))) : W p l e R s m args below meth c H locs k n Z (F0 m pc ls st0) := by
  intro T hT X
  obtain ⟨v, st₀, t, T', L, h0, X', hL, e1, e2, ⟨⟨r, h', hv, hq, hR⟩, hz, hk⟩, st⟩ := hr T hT X
  cases hv
  rw [h0] at hz hk
  obtain ⟨t2, a1, b1⟩ := kk r h' T'.heap (locs ++ L) hq (by rw [e1]; exact hR.moved (by rw [← e2]; exact X'.warmed.alike.symm))
    ⟨Nat.le_trans hS.1 (by rw [e1]; exact hz), fun q h1 h2 => by rw [e1, hk q (Nat.lt_of_lt_of_le h1 hS.1) h2]; exact hS.2.1 q h1 h2, fun q hq => by
      rcases List.mem_append.mp hq with h | h
      · exact hS.2.2 q h
      · exact hL q h⟩ T' rfl X'
  exact ⟨t2, st t2 a1, b1⟩
end AXC
section AXM
variable {X : ax_X} {M M' : ax_M} {d pc k n np : Nat} {L : List (Option Value)} {st : List Value} {h : ax_H} {Q : Option Value → ax_H → Prop}
theorem ax_callB {R : Room} {s : State} {args : Array Value} {own : String} {idx : Nat} (hts : ∀ w ∈ ax_ws, w.before args s = true) (hl : Cond.methodLink own idx M'.1 ∈ ax_ws) (hc : ax_CW M' np) (hR : R = ax_rm (d + 1) M) : CallB R s args own idx M'.1 M'.2.1 M'.2.2.1 M'.2.2.2.1 (.code M'.1 M'.2.1 M'.2.2.1 M'.2.2.2.1 :: ax_ws) (ax_rm d M') M'.2.2.2.2.1 M'.2.2.2.2.2 np :=
  callB_of np hts (ax_good hc.2.1) rfl rfl rfl (hts _ hc.1) (hts _ hl) hc.2.2.1 (by
    have := hc.2.2.2
    subst hR
    exact ⟨Nat.le_refl _, by show 8 + (M'.2.2.1 + 11) + 64 * d ≤ 64 * (d + 1); omega⟩)
/-- a call of an instance's method -/
theorem ax_callV (hX : ax_ok X M (d + 1)) {idx a ci : Nat} {fs : Nat → Value} {A stk : List Value} {r : vw_C} (hl : Cond.methodLink M.1.cls idx M'.1 ∈ ax_ws) (hi : Cond.instanceMethod M'.1 ∈ ax_ws) (hs : Cond.selects M'.1.cls M'.1 M'.1 ∈ ax_ws) (hc : ax_CW M' np) (hh : h.2 a = ax_ob ci fs) (hcl : vwCl[ci]? = some r) (hrc : r.1 = M'.1.cls)
    (hst : stk = A.reverse ++ .ref a :: st) (hn : A.length = np) (hroom : (st.map fun v => v.category).sum ≤ 8) (hk : k + M'.2.2.2.2.1 ≤ M.2.2.2.2.1) (hn2 : n + M'.2.2.2.2.2 ≤ M.2.2.2.2.2) (hd : decode M.2.1 pc = .ok (.invokevirtual idx, 3)) (hK : ax_K d M' (.ref a :: A) h Q)
    (kk : ∀ r h', Q r h' → ax_j X (pc + 3) L (r.toList ++ st) h' (k + M'.2.2.2.2.1) (n + M'.2.2.2.2.2)) : ax_j X pc L stk h k n := by
  obtain ⟨p, l, e, R, s, m, args, below, meth, c, Z, D, g⟩ := X
  subst hst
  refine fun H locs ls hR hS hL => ?_
  obtain ⟨hx, hb, hml, hrt, hown, hts, hlk, hnm, hT, hG, hsz, hRm⟩ := hX
  have hca := hR.2.2 a (by rw [hh]; show ci < 12; exact (List.getElem?_eq_some_iff.mp hcl).1)
  rw [hh] at hca
  obtain ⟨r', hr', cellV, g1, g2, g3, -⟩ := hca
  have hcls := (hT.1.1 ci r hcl).2.1
  have hcat : ((st.map (ax_v g)).map fun v => v.category).sum ≤ 8 := by
    rw [List.map_map]
    have : ((fun v : Value => v.category) ∘ ax_v g) = fun v => v.category := by funext v; exact ax_cat g v
    rw [this]; exact hroom
  refine ax_run (a := (Value.ref (g a) :: A.map (ax_v g)).toArray) (va_runV (nL := c.maxLocals) (b := g a) (As := A.map (ax_v g)) (rest := st.map (ax_v g)) ⟨hx, hb, rfl, hown, hts⟩ (hK l D g hG) ⟨ax_callB hts hl hc hRm, hts _ hi, hts _ hs⟩ ⟨ax_blind D g _ h, ⟨cellV, g1, by rw [g3]; rfl, by rw [g2, ← hrc]; exact hcls⟩, fun U hU hW => ⟨rfl, by rw [hU]; exact hR.moved hW.alike, hT.moved hW (by rw [hU]; exact hS)⟩⟩ rfl (by rw [List.length_map]; exact hn) hL.1 (by simp [ax_v, F0]) (lv_room hcat) hd (by rw [hRm]; exact ⟨hk, hn2⟩)) hS ?_
  intro r2 h2 H1 locs1 hq hR1 hS1
  have := kk r2 h2 hq H1 locs1 ls hR1 hS1 hL
  rw [List.map_append] at this
  cases r2 <;> exact this
/-- a call of a static method -/
theorem ax_callS (hX : ax_ok X M (d + 1)) {idx : Nat} {A stk : List Value} (hl : Cond.methodLink M.1.cls idx M'.1 ∈ ax_ws) (hi : Cond.static M'.1 ∈ ax_ws) (hc : ax_CW M' np)
    (hst : stk = A.reverse ++ st) (hn : A.length = np) (hroom : (st.map fun v => v.category).sum ≤ 8) (hk : k + M'.2.2.2.2.1 ≤ M.2.2.2.2.1) (hn2 : n + M'.2.2.2.2.2 ≤ M.2.2.2.2.2) (hd : decode M.2.1 pc = .ok (.invokestatic idx, 3)) (hK : ax_K d M' A h Q)
    (kk : ∀ r h', Q r h' → ax_j X (pc + 3) L (r.toList ++ st) h' (k + M'.2.2.2.2.1) (n + M'.2.2.2.2.2)) : ax_j X pc L stk h k n := by
  obtain ⟨p, l, e, R, s, m, args, below, meth, c, Z, D, g⟩ := X
  subst hst
  refine fun H locs ls hR hS hL => ?_
  obtain ⟨hx, hb, hml, hrt, hown, hts, hlk, hnm, hT, hG, hsz, hRm⟩ := hX
  have hcat : ((st.map (ax_v g)).map fun v => v.category).sum ≤ 8 := by
    rw [List.map_map]
    have : ((fun v : Value => v.category) ∘ ax_v g) = fun v => v.category := by funext v; exact ax_cat g v
    rw [this]; exact hroom
  refine ax_run (a := (A.map (ax_v g)).toArray) (va_runS (nL := c.maxLocals) (As := A.map (ax_v g)) (rest := st.map (ax_v g)) ⟨hx, hb, rfl, hown, hts⟩ (hK l D g hG) ⟨ax_callB hts hl hc hRm, hts _ hi⟩ ⟨ax_blind D g _ h, fun U hU hW => ⟨rfl, by rw [hU]; exact hR.moved hW.alike, hT.moved hW (by rw [hU]; exact hS)⟩⟩ rfl (by rw [List.length_map]; exact hn) hL.1 (by simp [F0]) (lv_room hcat) hd (by rw [hRm]; exact ⟨hk, hn2⟩)) hS ?_
  intro r2 h2 H1 locs1 hq hR1 hS1
  have := kk r2 h2 hq H1 locs1 ls hR1 hS1 hL
  rw [List.map_append] at this
  cases r2 <;> exact this
/-- a constructor's call -/
theorem ax_callI (hX : ax_ok X M (d + 1)) {idx a : Nat} {A stk : List Value} (hl : Cond.methodLink M.1.cls idx M'.1 ∈ ax_ws) (hi : Cond.instanceMethod M'.1 ∈ ax_ws) (hc : ax_CW M' np) (hini : M'.1.name = "<init>") (hret : M'.2.2.2.1 = none)
    (hst : stk = A.reverse ++ .ref a :: st) (hn : A.length = np) (hroom : (st.map fun v => v.category).sum ≤ 8) (hk : k + M'.2.2.2.2.1 ≤ M.2.2.2.2.1) (hn2 : n + M'.2.2.2.2.2 ≤ M.2.2.2.2.2) (hd : decode M.2.1 pc = .ok (.invokespecial idx, 3)) (hK : ax_K d M' (.ref a :: A) h Q)
    (kk : ∀ r h', Q r h' → ax_j X (pc + 3) L (r.toList ++ st) h' (k + M'.2.2.2.2.1) (n + M'.2.2.2.2.2)) : ax_j X pc L stk h k n := by
  obtain ⟨p, l, e, R, s, m, args, below, meth, c, Z, D, g⟩ := X
  subst hst
  refine fun H locs ls hR hS hL => ?_
  obtain ⟨hx, hb, hml, hrt, hown, hts, hlk, hnm, hT, hG, hsz, hRm⟩ := hX
  have hcat : ((st.map (ax_v g)).map fun v => v.category).sum ≤ 8 := by
    rw [List.map_map]
    have : ((fun v : Value => v.category) ∘ ax_v g) = fun v => v.category := by funext v; exact ax_cat g v
    rw [this]; exact hroom
  have hcb := ax_callB (M := M) (d := d) (R := R) hts hl hc hRm
  have hM := hK l D g hG
  rw [hret] at hcb hM
  refine ax_run (a := (Value.ref (g a) :: A.map (ax_v g)).toArray) (va_runI (nL := c.maxLocals) (b := g a) (As := A.map (ax_v g)) (rest := st.map (ax_v g)) ⟨hx, hb, rfl, hown, hts⟩ hM ⟨hcb, hini, hts _ hi⟩ ⟨ax_blind D g _ h, fun U hU hW => ⟨rfl, by rw [hU]; exact hR.moved hW.alike, hT.moved hW (by rw [hU]; exact hS)⟩⟩ rfl (by rw [List.length_map]; exact hn) hL.1 (by simp [ax_v, F0]) (lv_room hcat) hd (by rw [hRm]; exact ⟨hk, hn2⟩)) hS ?_
  intro r2 h2 H1 locs1 hq hR1 hS1
  have := kk r2 h2 hq H1 locs1 ls hR1 hS1 hL
  rw [List.map_append] at this
  cases r2 <;> exact this
/-- a private constructor's call, by a nest mate -/
theorem ax_callN (hX : ax_ok X M (d + 1)) {idx a : Nat} {host : String} {A stk : List Value} (hl : Cond.methodLinkNest M.1.cls idx M'.1 host ∈ ax_nest) (hi : Cond.instanceMethod M'.1 ∈ ax_ws) (hc : ax_CW M' np) (hini : M'.1.name = "<init>") (hret : M'.2.2.2.1 = none)
    (hst : stk = A.reverse ++ .ref a :: st) (hn : A.length = np) (hroom : (st.map fun v => v.category).sum ≤ 8) (hk : k + M'.2.2.2.2.1 ≤ M.2.2.2.2.1) (hn2 : n + M'.2.2.2.2.2 ≤ M.2.2.2.2.2) (hd : decode M.2.1 pc = .ok (.invokespecial idx, 3)) (hK : ax_K d M' (.ref a :: A) h Q)
    (kk : ∀ r h', Q r h' → ax_j X (pc + 3) L (r.toList ++ st) h' (k + M'.2.2.2.2.1) (n + M'.2.2.2.2.2)) : ax_j X pc L stk h k n := by
  obtain ⟨p, l, e, R, s, m, args, below, meth, c, Z, D, g⟩ := X
  subst hst
  refine fun H locs ls hR hS hL => ?_
  obtain ⟨hx, hb, hml, hrt, hown, hts, hlk, hnm, hT, hG, hsz, hRm⟩ := hX
  have hcat : ((st.map (ax_v g)).map fun v => v.category).sum ≤ 8 := by
    rw [List.map_map]
    have : ((fun v : Value => v.category) ∘ ax_v g) = fun v => v.category := by funext v; exact ax_cat g v
    rw [this]; exact hroom
  have hcn : va_CN R s args M.1.cls idx M'.1 host M'.2.1 M'.2.2.1 M'.2.2.2.1 (.code M'.1 M'.2.1 M'.2.2.1 M'.2.2.2.1 :: ax_ws) (ax_rm d M') M'.2.2.2.2.1 M'.2.2.2.2.2 np :=
    va_cnB np hts (ax_good hc.2.1) rfl rfl rfl (hT.2.1 _ hl) (hts _ hc.1) hc.2.2.1 (by
      have := hc.2.2.2
      subst hRm
      exact ⟨Nat.le_refl _, by show 8 + (M'.2.2.1 + 11) + 64 * d ≤ 64 * (d + 1); omega⟩)
  have hM := hK l D g hG
  rw [hret] at hcn hM
  refine ax_run (a := (Value.ref (g a) :: A.map (ax_v g)).toArray) (va_runIN (nL := c.maxLocals) (b := g a) (As := A.map (ax_v g)) (rest := st.map (ax_v g)) ⟨hx, hb, rfl, hown, hts⟩ hM ⟨hcn, hini, hts _ hi⟩ ⟨ax_blind D g _ h, fun U hU hW => ⟨rfl, by rw [hU]; exact hR.moved hW.alike, hT.moved hW (by rw [hU]; exact hS)⟩⟩ rfl (by rw [List.length_map]; exact hn) hL.1 (by simp [ax_v, F0]) (lv_room hcat) hd (by rw [hRm]; exact ⟨hk, hn2⟩)) hS ?_
  intro r2 h2 H1 locs1 hq hR1 hS1
  have := kk r2 h2 hq H1 locs1 ls hR1 hS1 hL
  rw [List.map_append] at this
  cases r2 <;> exact this
/-- Object's own constructor -/
theorem ax_obj (hX : ax_ok X M (d + 1)) {idx a : Nat} (hl : Cond.methodLink M.1.cls idx Lib.objectInit ∈ ax_ws) (hi : Cond.instanceMethod Lib.objectInit ∈ ax_ws) (hc : Cond.code Lib.objectInit ⟨#[0xb1]⟩ 1 none ∈ ax_ws) (hroom : (st.map fun v => v.category).sum ≤ 8) (hd : decode M.2.1 pc = .ok (.invokespecial idx, 3)) (kk : ax_j X (pc + 3) L st h k n) : ax_j X pc L (.ref a :: st) h k n := by
  obtain ⟨p, l, e, R, s, m, args, below, meth, c, Z, D, g⟩ := X
  refine fun H locs ls hR hS hL => ?_
  obtain ⟨hx, hb, hml, hrt, hown, hts, hlk, hnm, hT, hG, hsz, hRm⟩ := hX
  have hcat : ((st.map (ax_v g)).map fun v => v.category).sum ≤ 8 := by
    rw [List.map_map]
    have : ((fun v : Value => v.category) ∘ ax_v g) = fun v => v.category := by funext v; exact ax_cat g v
    rw [this]; exact hroom
  refine W.objInit hx hb hown (hts _ hl) (hts _ hi) (hts _ hc) rfl hL.1 rfl hd (by rw [hRm]; show 1 ≤ d + 1; omega) (by rw [hRm]; show 2 * 0 + _ + 12 ≤ 64 * (d + 1); omega) (kk H locs ls hR hS hL)
/-- arrays are made -/
theorem ax_newI (hX : ax_ok X M d) {aty : ArrayType} {t N : Nat} {x : Int32} (hw : Cond.arrayClass (newarray.typeOf aty) ∈ ax_ws) (hty : newarray.typeOf aty = ax_ty t) (ht : t < 4) (hdf : defaultValue (ax_ty t) = .int 0) (hx : ¬ x < 0) (hN : x.toNatClampNeg = N) (hb8 : N * componentBytes (ax_ty t) ≤ 536870912) (hk : k + 1 ≤ M.2.2.2.2.1) (hn2 : n + N ≤ M.2.2.2.2.2) (hsm : N < 2 ^ 31) (hd : decode M.2.1 pc = .ok (.newarray aty, 2)) (kk : ax_j X (pc + 2) L (.ref h.1 :: st) (h.1 + 1, va_up h.2 h.1 (ax_ia t N (fun _ => 0))) (k + 1) (n + N)) : ax_j X pc L (.int x :: st) h k n := by
  obtain ⟨p, l, e, R, s, m, args, below, meth, c, Z, D, g⟩ := X
  refine fun H locs ls hR hS hL => ?_
  obtain ⟨hxx, hb, hml, hrt, hown, hts, hlk, hnm, hT, hG, hsz, hRm⟩ := hX
  refine W.newaK hxx hb (hts _ hw) rfl hd rfl hx hN (by rw [hty]; exact hb8) (by rw [hRm]; exact hk) (by rw [hRm]; exact hn2) hR.1 fun H1 cA e1 z1 o1 hA => kk H1 locs ls (hR.push hG (by rw [z1, hR.1]) (fun q hq => o1 q (by rw [← hR.1]; exact hq)) ?_) ⟨Nat.le_trans hS.1 (by rw [z1, hR.1]; omega), fun q h1 h2 => (o1 q (by rw [← hR.1]; exact Nat.lt_of_lt_of_le h1 hS.1)).trans (hS.2.1 q h1 h2), hS.2.2⟩ hL
  rw [hty] at e1 hA
  refine ⟨_, e1, hA N _, fun q => (by cases q), fun q => absurd q (by omega), by rw [arrV_size]; exact Nat.le_refl _, by rw [arrV_size], fun j hj => ?_⟩
  rw [arrV_read _ _ hj, hdf]
  rfl
theorem ax_newL (hX : ax_ok X M d) {N : Nat} {x : Int32} (hw : Cond.arrayClass .long ∈ ax_ws) (hx : ¬ x < 0) (hN : x.toNatClampNeg = N) (hb8 : N * 8 ≤ 536870912) (hk : k + 1 ≤ M.2.2.2.2.1) (hn2 : n + N ≤ M.2.2.2.2.2) (hd : decode M.2.1 pc = .ok (.newarray .long, 2)) (kk : ax_j X (pc + 2) L (.ref h.1 :: st) (h.1 + 1, va_up h.2 h.1 (ax_la N (fun _ => 0))) (k + 1) (n + N)) : ax_j X pc L (.int x :: st) h k n := by
  obtain ⟨p, l, e, R, s, m, args, below, meth, c, Z, D, g⟩ := X
  refine fun H locs ls hR hS hL => ?_
  obtain ⟨hxx, hb, hml, hrt, hown, hts, hlk, hnm, hT, hG, hsz, hRm⟩ := hX
  refine W.newaK (atype := .long) hxx hb (hts _ hw) rfl hd rfl hx hN hb8 (by rw [hRm]; exact hk) (by rw [hRm]; exact hn2) hR.1 fun H1 cA e1 z1 o1 hA => kk H1 locs ls (hR.push hG (by rw [z1, hR.1]) (fun q hq => o1 q (by rw [← hR.1]; exact hq)) ?_) ⟨Nat.le_trans hS.1 (by rw [z1, hR.1]; omega), fun q h1 h2 => (o1 q (by rw [← hR.1]; exact Nat.lt_of_lt_of_le h1 hS.1)).trans (hS.2.1 q h1 h2), hS.2.2⟩ hL
  refine ⟨_, e1, hA N _, fun q => (by cases q), fun q => absurd q (by omega), by rw [arrV_size]; exact Nat.le_refl _, by rw [arrV_size], fun j hj => ?_⟩
  rw [arrV_read _ _ hj]
  rfl
theorem ax_newR (hX : ax_ok X M d) {idx t N : Nat} {C : String} {x : Int32} (hl : Cond.classLink M.1.cls idx C ∈ ax_ws) (hw : Cond.arrayOver (.object C) ∈ ax_nest) (hty : ax_ty t = .object C) (hx : ¬ x < 0) (hN : x.toNatClampNeg = N) (hb8 : N * 4 ≤ 536870912) (hk : k + 1 ≤ M.2.2.2.2.1) (hn2 : n + N ≤ M.2.2.2.2.2) (hd : decode M.2.1 pc = .ok (.anewarray idx, 3)) (kk : ax_j X (pc + 3) L (.ref h.1 :: st) (h.1 + 1, va_up h.2 h.1 (ax_ra t N (fun _ => none))) (k + 1) (n + N)) : ax_j X pc L (.int x :: st) h k n := by
  obtain ⟨p, l, e, R, s, m, args, below, meth, c, Z, D, g⟩ := X
  refine fun H locs ls hR hS hL => ?_
  obtain ⟨hxx, hb, hml, hrt, hown, hts, hlk, hnm, hT, hG, hsz, hRm⟩ := hX
  subst hN
  have hov : va_AO C s := hT.2.1 _ hw
  refine W.anew hxx hb hown (hts _ hl) hov.use rfl hd rfl hx hb8 (by rw [hRm]; exact hk) (by rw [hRm]; exact hn2) fun cA kA comp h1 h2 h3 h4 => ?_
  rw [hR.1]
  refine kk _ locs ls (hR.push hG (by simp) (fun q hq => by rw [Array.getElem?_push, if_neg (Nat.ne_of_lt hq)]) ?_) ⟨Nat.le_trans hS.1 (by simp), fun q g1 g2 => by rw [Array.getElem?_push, if_neg (Nat.ne_of_lt (Nat.lt_of_lt_of_le g1 hS.1))]; exact hS.2.1 q g1 g2, hS.2.2⟩ hL
  refine ⟨{ cls := cA, slots := Array.replicate x.toNatClampNeg .null, vm := .none }, by rw [← hR.1]; simp, ?_, fun q => (by cases q), fun _ => ?_, by simp, by simp, fun j hj => ?_⟩
  · rw [hty]; exact ⟨fun k h => (by cases h), kA, h2, comp, h3⟩
  · rw [hty]; exact ⟨kA, comp, h2, h3, h4, h1⟩
  · show (Array.replicate x.toNatClampNeg Value.null)[j]? = _
    simp [hj]
    rfl
theorem ax_dv (g : Nat → Nat) (ty : FieldType) : ax_v g (defaultValue ty) = defaultValue ty := by cases ty <;> rfl
/-- an object is made -/
theorem ax_new (hX : ax_ok X M d) {idx ci N : Nat} {C : String} {T : u_T} {ty : Nat → FieldType} {fs : Nat → Value} (hcl : ax_cls ci C T N ty) (hl : Cond.classLink M.1.cls idx C ∈ ax_ws) (hi : Cond.instantiable C N ∈ ax_ws) (hini : Cond.initialized C ∈ ax_ws) (hfs : ∀ j, j < N → fs j = defaultValue (ty j)) (hk : k + 1 ≤ M.2.2.2.2.1) (hn2 : n + N ≤ M.2.2.2.2.2) (hd : decode M.2.1 pc = .ok (.new idx, 3)) (kk : ax_j X (pc + 3) L (.ref h.1 :: st) (h.1 + 1, va_up h.2 h.1 (ax_ob ci fs)) (k + 1) (n + N)) : ax_j X pc L st h k n := by
  obtain ⟨p, l, e, R, s, m, args, below, meth, c, Z, D, g⟩ := X
  refine fun H locs ls hR hS hL => ?_
  obtain ⟨hxx, hb, hml, hrt, hown, hts, hlk, hnm, hT, hG, hsz, hRm⟩ := hX
  obtain ⟨hc, hin, hty, hnm2⟩ := hcl
  have hKn := hT.1.1 ci _ hc
  refine W.newcK hxx hb hown (hts _ hl) (hts _ hi) (hts _ hini) rfl hd (by rw [hRm]; exact hk) (by rw [hRm]; exact hn2) hKn.2.1 hR.1 fun H1 kC hkC e1 z1 o1 => kk H1 locs ls (hR.push hG (by rw [z1, hR.1]) (fun q hq => o1 q (by rw [← hR.1]; exact hq)) ?_) ⟨Nat.le_trans hS.1 (by rw [z1, hR.1]; omega), fun q h1 h2 => (o1 q (by rw [← hR.1]; exact Nat.lt_of_lt_of_le h1 hS.1)).trans (hS.2.1 q h1 h2), hS.2.2⟩ hL
  exact ⟨_, hc, (u_born ty hts hin hKn hkC e1 hty).to (fun j hj => by rw [hfs j hj, ax_dv])⟩
/-- the static array of words -/
theorem ax_getst (hX : ax_ok X M d) {idx : Nat} {host : String} (hl : Cond.fieldLinkNest M.1.cls idx "ExamTour" "KEPT_WORDS" "[J" host ∈ ax_nest) (hd : decode M.2.1 pc = .ok (.getstatic idx, 3)) (kk : ax_j X (pc + 3) L (.ref 1 :: st) h k n) : ax_j X pc L st h k n := by
  obtain ⟨p, l, e, R, s, m, args, below, meth, c, Z, D, g⟩ := X
  refine fun H locs ls hR hS hL => ?_
  obtain ⟨hxx, hb, hml, hrt, hown, hts, hlk, hnm, hT, hG, hsz, hRm⟩ := hX
  exact va_getsN hxx hb hT.2.2 hS hown (va_Nw.use rfl (hT.2.1 _ hl)) (fun _ q => q) hd (kk H locs ls hR hS hL)
/-- what an answer may be: the handlers of the four returns -/
def ax_Ret (X : ax_X) (M : ax_M) (Q : Option Value → ax_H → Prop) : Prop :=
  (∀ (pc : Nat) (L : List (Option Value)) (r : Int32) (h : ax_H) (k n : Nat), k ≤ M.2.2.2.2.1 → n ≤ M.2.2.2.2.2 → decode M.2.1 pc = .ok (.ireturn, 1) → (∃ ty, M.2.2.2.1 = some ty ∧ narrow ty (.int r) = .int r) → Q (some (.int r)) h → ax_j X pc L [.int r] h k n) ∧
  (∀ (pc : Nat) (L : List (Option Value)) (r : Int64) (h : ax_H) (k n : Nat), k ≤ M.2.2.2.2.1 → n ≤ M.2.2.2.2.2 → decode M.2.1 pc = .ok (.lreturn, 1) → M.2.2.2.1 = some .long → Q (some (.long r)) h → ax_j X pc L [.long r] h k n) ∧
  (∀ (pc : Nat) (L : List (Option Value)) (r : Value) (h : ax_H) (k n : Nat), k ≤ M.2.2.2.2.1 → n ≤ M.2.2.2.2.2 → decode M.2.1 pc = .ok (.areturn, 1) → (∃ C, M.2.2.2.1 = some (.object C)) → ax_isr r → Q (some r) h → ax_j X pc L [r] h k n) ∧
  (∀ (pc : Nat) (L : List (Option Value)) (h : ax_H) (k n : Nat), k ≤ M.2.2.2.2.1 → n ≤ M.2.2.2.2.2 → decode M.2.1 pc = .ok (.return_, 1) → M.2.2.2.1 = none → Q none h → ax_j X pc L [] h k n)
theorem ax_enter {A : List Value} (hpl : plainName M.1.cls = true) (hent : (ax_ent0 A).length ≤ M.2.2.1) (body : ∀ X, ax_ok X M d → ax_Ret X M Q → ax_j X 0 (ax_ent A M.2.2.1) [] h 0 0) : ax_K d M A h Q := by
  intro l D g hG
  refine Met.ofW (cc := M.2.1) (maxL := M.2.2.1) (ret := M.2.2.2.1) hpl rfl ?_
  intro p e s m args below meth c s₁ B hml hv
  obtain ⟨rfl, hR, hT⟩ := hv
  have hx := B.exec
  have hb := B.bytes
  have hr := B.returns
  have hts := atoms_spec (ws := .code M.1 M.2.1 M.2.2.1 M.2.2.2.1 :: ax_ws) B.pre
  have hown : s.vm.findClass M.1.cls = some m.cls := findClass_of_methodNamed B.named
  have hlocks := B.notSynchronized
  have hnm := (name_of_methodNamed B.named B.method).1
  have hsz : g 2 ≤ s.heap.size := by rw [hR.1]; exact hG.ge hR.2.1
  have hS : va_S (fun q => g 2 ≤ q) s.heap s.heap [] := va_S.rf
  rw [lg_entry_eq]
  have hl := ax_ent_L g A hent
  refine body (p, l, e, ax_rm d M, s, m, (A.map (ax_v g)).toArray, below, meth, c, MQ below (ax_Qc D g Q) (A.map (ax_v g)).toArray s M.2.2.2.2.1 M.2.2.2.2.2 (fun q => g 2 ≤ q), D, g) ⟨hx, hb, hml, hr, hown, fun w hw => hts w (List.mem_cons_of_mem _ hw), hlocks, hnm, hT, hG, hsz, rfl⟩ ⟨?_, ?_, ?_, ?_⟩ s.heap [] _ hR hS (by rw [hml]; exact hl)
  · intro pc L r h2 k n hk hn hd hty hq H locs ls hR2 hS2 hL2
    obtain ⟨ty, hty, hnar⟩ := hty
    refine W.widen hk hn ?_
    exact W.zret hx hb (hr.trans hty) hnar (fun t ht hW => ⟨⟨some (.int r), h2, rfl, hq, by rw [ht]; exact hR2.moved hW.alike⟩, hS2.F ht⟩) hS2.2.2 hd
  · intro pc L r h2 k n hk hn hd hty hq H locs ls hR2 hS2 hL2
    refine W.widen hk hn ?_
    exact W.lret hx hb (hr.trans hty) (fun t ht hW => ⟨⟨some (.long r), h2, rfl, hq, by rw [ht]; exact hR2.moved hW.alike⟩, hS2.F ht⟩) hS2.2.2 hd
  · intro pc L r h2 k n hk hn hd hty hv hq H locs ls hR2 hS2 hL2
    obtain ⟨C, hty⟩ := hty
    refine W.widen hk hn ?_
    exact W.aret hx hb (hr.trans hty) (Or.inl ⟨C, rfl⟩) (by rcases hv with rfl | ⟨a, rfl⟩ <;> first | exact Or.inl rfl | exact Or.inr ⟨_, rfl⟩) (fun t ht hW => ⟨⟨some r, h2, rfl, hq, by rw [ht]; exact hR2.moved hW.alike⟩, hS2.F ht⟩) hS2.2.2 hd
  · intro pc L h2 k n hk hn hd hty hq H locs ls hR2 hS2 hL2
    refine W.widen hk hn ?_
    exact W.vret hx hb (hr.trans hty) (fun t ht hW => ⟨⟨none, h2, rfl, hq, by rw [ht]; exact hR2.moved hW.alike⟩, hS2.F ht⟩) hS2.2.2 hd
end AXM
end
section
/-! words, methods, layout: printed by wip/whole/words.py -/
theorem ax_mem1 {w : Cond} (i : Nat) (h : tables_1[i]? = some w) (hg : goodWord w = true) : w ∈ ax_ws := List.mem_filter.mpr ⟨List.mem_append_right _ (List.mem_of_getElem? h), hg⟩
theorem ax_memN {w : Cond} (i : Nat) (h : tables_1[i]? = some w) (hg : goodWord w = false) : w ∈ ax_nest := List.mem_filter.mpr ⟨List.mem_append_right _ (List.mem_of_getElem? h), by rw [hg]; rfl⟩
theorem ax_memS {y : MethodName} {n : Nat} (i : Nat) (h : lw_privs[i]? = some (y, n)) (hg : goodWord (.selects y.cls y y) = true) : Cond.selects y.cls y y ∈ ax_ws := List.mem_filter.mpr ⟨List.mem_append_left _ (List.mem_map.mpr ⟨(y, n), List.mem_of_getElem? h, rfl⟩), hg⟩
theorem ax_memL {ws : List Cond} (ps : List Nat) (hp : ws = ps.filterMap (fun i => tables_1[i]?)) (hg : ws.all goodWord = true) : ∀ w ∈ ws, w ∈ ax_ws := by
  intro w hw
  have h1 := List.all_eq_true.mp hg w hw
  rw [hp] at hw
  obtain ⟨i, -, hi⟩ := List.mem_filterMap.mp hw
  exact ax_mem1 i hi h1
set_option maxRecDepth 20000 in
theorem cl0 : ax_cls 0 RX0 TX0 4 tyX0 := ⟨rfl, ax_memL [365, 367, 369, 371] (by decide +kernel) (by decide +kernel), tyX0_ok, nmX0⟩
set_option maxRecDepth 20000 in
theorem cl1 : ax_cls 1 RX1 TX1 8 tyX1 := ⟨rfl, ax_memL [260, 262, 264, 266, 268, 270, 272, 274] (by decide +kernel) (by decide +kernel), tyX1_ok, nmX1⟩
set_option maxRecDepth 20000 in
theorem cl2 : ax_cls 2 RX2 TX2 10 tyX2 := ⟨rfl, ax_memL [215, 217, 219, 221, 223, 225, 227, 229, 231, 233] (by decide +kernel) (by decide +kernel), tyX2_ok, nmX2⟩
set_option maxRecDepth 20000 in
theorem cl3 : ax_cls 3 RX3 TX3 13 tyX3 := ⟨rfl, ax_memL [103, 105, 107, 109, 111, 113, 115, 117, 119, 121, 123, 125, 127] (by decide +kernel) (by decide +kernel), tyX3_ok, nmX3⟩
set_option maxRecDepth 20000 in
theorem cl4 : ax_cls 4 RX4 TX4 3 tyX4 := ⟨rfl, ax_memL [183, 185, 187] (by decide +kernel) (by decide +kernel), tyX4_ok, nmX4⟩
set_option maxRecDepth 20000 in
theorem cl5 : ax_cls 5 RX5 TX5 9 tyX5 := ⟨rfl, ax_memL [332, 334, 336, 338, 340, 342, 344, 346, 348] (by decide +kernel) (by decide +kernel), tyX5_ok, nmX5⟩
set_option maxRecDepth 20000 in
theorem cl6 : ax_cls 6 RX6 TX6 6 tyX6 := ⟨rfl, ax_memL [158, 160, 162, 164, 166, 168] (by decide +kernel) (by decide +kernel), tyX6_ok, nmX6⟩
set_option maxRecDepth 20000 in
theorem cl7 : ax_cls 7 RX7 TX7 9 tyX7 := ⟨rfl, ax_memL [293, 295, 297, 299, 301, 303, 305, 307, 309] (by decide +kernel) (by decide +kernel), tyX7_ok, nmX7⟩
set_option maxRecDepth 20000 in
theorem cl8 : ax_cls 8 RX8 TX8 4 tyX8 := ⟨rfl, ax_memL [140, 142, 144, 146] (by decide +kernel) (by decide +kernel), tyX8_ok, nmX8⟩
set_option maxRecDepth 20000 in
theorem cl9 : ax_cls 9 RX9 TX9 7 tyX9 := ⟨rfl, ax_memL [46, 48, 50, 52, 54, 56, 58] (by decide +kernel) (by decide +kernel), tyX9_ok, nmX9⟩
set_option maxRecDepth 20000 in
theorem cl10 : ax_cls 10 RX10 TX10 8 tyX10 := ⟨rfl, ax_memL [382, 384, 386, 388, 390, 392, 394, 396] (by decide +kernel) (by decide +kernel), tyX10_ok, nmX10⟩
set_option maxRecDepth 20000 in
theorem cl11 : ax_cls 11 RX11 TX11 77 tyX11 := ⟨rfl, ax_memL [1052, 1054, 1056, 1058, 1060, 1062, 1064, 1066, 1068, 1070, 1072, 1074, 1076, 1078, 1080, 1082, 1084, 1086, 1088, 1090, 1092, 1094, 1096, 1098, 1100, 1102, 1104, 1106, 1108, 1110, 1112, 1114, 1116, 1118, 1120, 1122, 1124, 1126, 1128, 1130, 1132, 1134, 1136, 1138, 1140, 1142, 1144, 1146, 1148, 1150, 1152, 1154, 1156, 1158, 1160, 1162, 1164, 1166, 1168, 1170, 1172, 1174, 1176, 1178, 1180, 1182, 1184, 1186, 1188, 1190, 1192, 1194, 1196, 1198, 1200, 1202, 1204] (by decide +kernel) (by decide +kernel), tyX11_ok, nmX11⟩
theorem fRX10_12 : ax_FW RX10 12 10 0 (.object "ExamTour$Parser") true RX10 := ⟨TX10, 8, tyX10, cl10, by decide, rfl, rfl, rfl, ax_mem1 374 (by decide +kernel) rfl⟩
theorem fRX10_18 : ax_FW RX10 18 10 1 (.array (.object "ExamTour$Syllabus")) true RX10 := ⟨TX10, 8, tyX10, cl10, by decide, rfl, rfl, rfl, ax_mem1 375 (by decide +kernel) rfl⟩
theorem fRX10_25 : ax_FW RX10 25 10 2 (.object "ExamTour$Judge") true RX10 := ⟨TX10, 8, tyX10, cl10, by decide, rfl, rfl, rfl, ax_mem1 376 (by decide +kernel) rfl⟩
theorem fRX10_32 : ax_FW RX10 32 10 3 (.object "ExamTour$Entries") true RX10 := ⟨TX10, 8, tyX10, cl10, by decide, rfl, rfl, rfl, ax_mem1 377 (by decide +kernel) rfl⟩
theorem fRX10_39 : ax_FW RX10 39 10 4 (.object "ExamTour$Circuit") true RX10 := ⟨TX10, 8, tyX10, cl10, by decide, rfl, rfl, rfl, ax_mem1 378 (by decide +kernel) rfl⟩
theorem fRX10_46 : ax_FW RX10 46 10 5 (.object "ExamTour$Planner") true RX10 := ⟨TX10, 8, tyX10, cl10, by decide, rfl, rfl, rfl, ax_mem1 379 (by decide +kernel) rfl⟩
theorem fRX10_53 : ax_FW RX10 53 10 6 (.object "ExamTour$Ledger") true RX10 := ⟨TX10, 8, tyX10, cl10, by decide, rfl, rfl, rfl, ax_mem1 380 (by decide +kernel) rfl⟩
theorem fRX10_60 : ax_FW RX10 60 10 7 (.object "ExamTour$Certificates") true RX10 := ⟨TX10, 8, tyX10, cl10, by decide, rfl, rfl, rfl, ax_mem1 381 (by decide +kernel) rfl⟩
theorem fRX10_64 : ax_FW RX10 64 6 0 (.object "ExamTour$Tokens") true RX6 := ⟨TX6, 6, tyX6, cl6, by decide, rfl, rfl, rfl, ax_mem1 150 (by decide +kernel) rfl⟩
theorem fRX10_68 : ax_FW RX10 68 9 1 (.int) false RX9 := ⟨TX9, 7, tyX9, cl9, by decide, rfl, rfl, rfl, ax_mem1 36 (by decide +kernel) rfl⟩
theorem fRX10_85 : ax_FW RX10 85 6 1 (.int) false RX6 := ⟨TX6, 6, tyX6, cl6, by decide, rfl, rfl, rfl, ax_mem1 152 (by decide +kernel) rfl⟩
theorem fRX10_96 : ax_FW RX10 96 6 2 (.int) false RX6 := ⟨TX6, 6, tyX6, cl6, by decide, rfl, rfl, rfl, ax_mem1 154 (by decide +kernel) rfl⟩
theorem fRX10_103 : ax_FW RX10 103 3 2 (.int) false RX3 := ⟨TX3, 13, tyX3, cl3, by decide, rfl, rfl, rfl, ax_mem1 82 (by decide +kernel) rfl⟩
theorem fRX10_108 : ax_FW RX10 108 3 11 (.array .int) true RX3 := ⟨TX3, 13, tyX3, cl3, by decide, rfl, rfl, rfl, ax_mem1 100 (by decide +kernel) rfl⟩
theorem fRX10_112 : ax_FW RX10 112 3 1 (.int) false RX3 := ⟨TX3, 13, tyX3, cl3, by decide, rfl, rfl, rfl, ax_mem1 79 (by decide +kernel) rfl⟩
theorem fRX10_115 : ax_FW RX10 115 3 3 (.int) false RX3 := ⟨TX3, 13, tyX3, cl3, by decide, rfl, rfl, rfl, ax_mem1 86 (by decide +kernel) rfl⟩
theorem fRX10_170 : ax_FW RX10 170 2 7 (.array .int) true RX2 := ⟨TX2, 10, tyX2, cl2, by decide, rfl, rfl, rfl, ax_mem1 211 (by decide +kernel) rfl⟩
theorem fRX10_173 : ax_FW RX10 173 1 5 (.array .int) true RX1 := ⟨TX1, 8, tyX1, cl1, by decide, rfl, rfl, rfl, ax_mem1 255 (by decide +kernel) rfl⟩
theorem fRX10_176 : ax_FW RX10 176 1 6 (.array .int) true RX1 := ⟨TX1, 8, tyX1, cl1, by decide, rfl, rfl, rfl, ax_mem1 258 (by decide +kernel) rfl⟩
theorem fRX10_186 : ax_FW RX10 186 1 2 (.int) false RX1 := ⟨TX1, 8, tyX1, cl1, by decide, rfl, rfl, rfl, ax_mem1 249 (by decide +kernel) rfl⟩
theorem fRX10_188 : ax_FW RX10 188 1 1 (.int) false RX1 := ⟨TX1, 8, tyX1, cl1, by decide, rfl, rfl, rfl, ax_mem1 246 (by decide +kernel) rfl⟩
theorem fRX10_199 : ax_FW RX10 199 7 0 (.array .int) true RX7 := ⟨TX7, 9, tyX7, cl7, by decide, rfl, rfl, rfl, ax_mem1 284 (by decide +kernel) rfl⟩
theorem fRX10_205 : ax_FW RX10 205 5 0 (.int) false RX5 := ⟨TX5, 9, tyX5, cl5, by decide, rfl, rfl, rfl, ax_mem1 320 (by decide +kernel) rfl⟩
theorem fRX10_239 : ax_FW RX10 239 0 1 (.array .int) true RX0 := ⟨TX0, 4, tyX0, cl0, by decide, rfl, rfl, rfl, ax_mem1 360 (by decide +kernel) rfl⟩
theorem fRX10_241 : ax_FW RX10 241 0 2 (.array .int) true RX0 := ⟨TX0, 4, tyX0, cl0, by decide, rfl, rfl, rfl, ax_mem1 362 (by decide +kernel) rfl⟩
theorem fRX10_242 : ax_FW RX10 242 0 3 (.array .int) true RX0 := ⟨TX0, 4, tyX0, cl0, by decide, rfl, rfl, rfl, ax_mem1 364 (by decide +kernel) rfl⟩
theorem fRX10_245 : ax_FW RX10 245 2 0 (.int) false RX2 := ⟨TX2, 10, tyX2, cl2, by decide, rfl, rfl, rfl, ax_mem1 197 (by decide +kernel) rfl⟩
theorem fRX10_248 : ax_FW RX10 248 1 0 (.int) false RX1 := ⟨TX1, 8, tyX1, cl1, by decide, rfl, rfl, rfl, ax_mem1 243 (by decide +kernel) rfl⟩
theorem fRX10_251 : ax_FW RX10 251 5 1 (.int) false RX5 := ⟨TX5, 9, tyX5, cl5, by decide, rfl, rfl, rfl, ax_mem1 322 (by decide +kernel) rfl⟩
theorem fRX10_252 : ax_FW RX10 252 0 0 (.int) false RX0 := ⟨TX0, 4, tyX0, cl0, by decide, rfl, rfl, rfl, ax_mem1 358 (by decide +kernel) rfl⟩
theorem fRX10_253 : ax_FW RX10 253 8 2 (.int) false RX8 := ⟨TX8, 4, tyX8, cl8, by decide, rfl, rfl, rfl, ax_mem1 136 (by decide +kernel) rfl⟩
theorem fRX10_260 : ax_FW RX10 260 2 2 (.array .int) true RX2 := ⟨TX2, 10, tyX2, cl2, by decide, rfl, rfl, rfl, ax_mem1 201 (by decide +kernel) rfl⟩
theorem fRX10_263 : ax_FW RX10 263 2 3 (.array .int) true RX2 := ⟨TX2, 10, tyX2, cl2, by decide, rfl, rfl, rfl, ax_mem1 203 (by decide +kernel) rfl⟩
theorem fRX10_269 : ax_FW RX10 269 3 12 (.array .int) true RX3 := ⟨TX3, 13, tyX3, cl3, by decide, rfl, rfl, rfl, ax_mem1 102 (by decide +kernel) rfl⟩
theorem fRX10_276 : ax_FW RX10 276 4 0 (.array .int) true RX4 := ⟨TX4, 3, tyX4, cl4, by decide, rfl, rfl, rfl, ax_mem1 180 (by decide +kernel) rfl⟩
theorem fRX10_279 : ax_FW RX10 279 3 5 (.int) false RX3 := ⟨TX3, 13, tyX3, cl3, by decide, rfl, rfl, rfl, ax_mem1 91 (by decide +kernel) rfl⟩
theorem fRX10_282 : ax_FW RX10 282 3 6 (.int) false RX3 := ⟨TX3, 13, tyX3, cl3, by decide, rfl, rfl, rfl, ax_mem1 94 (by decide +kernel) rfl⟩
theorem fRX10_291 : ax_FW RX10 291 2 4 (.array .int) true RX2 := ⟨TX2, 10, tyX2, cl2, by decide, rfl, rfl, rfl, ax_mem1 205 (by decide +kernel) rfl⟩
theorem fRX10_297 : ax_FW RX10 297 2 6 (.array .int) true RX2 := ⟨TX2, 10, tyX2, cl2, by decide, rfl, rfl, rfl, ax_mem1 209 (by decide +kernel) rfl⟩
theorem fRX10_303 : ax_FW RX10 303 5 2 (.array .int) true RX5 := ⟨TX5, 9, tyX5, cl5, by decide, rfl, rfl, rfl, ax_mem1 324 (by decide +kernel) rfl⟩
theorem fRX10_304 : ax_FW RX10 304 5 3 (.array .int) true RX5 := ⟨TX5, 9, tyX5, cl5, by decide, rfl, rfl, rfl, ax_mem1 326 (by decide +kernel) rfl⟩
theorem fRX10_310 : ax_FW RX10 310 2 1 (.array .int) true RX2 := ⟨TX2, 10, tyX2, cl2, by decide, rfl, rfl, rfl, ax_mem1 199 (by decide +kernel) rfl⟩
theorem fRX0_9 : ax_FW RX0 9 0 1 (.array .int) true RX0 := ⟨TX0, 4, tyX0, cl0, by decide, rfl, rfl, rfl, ax_mem1 359 (by decide +kernel) rfl⟩
theorem fRX0_15 : ax_FW RX0 15 0 2 (.array .int) true RX0 := ⟨TX0, 4, tyX0, cl0, by decide, rfl, rfl, rfl, ax_mem1 361 (by decide +kernel) rfl⟩
theorem fRX0_18 : ax_FW RX0 18 0 3 (.array .int) true RX0 := ⟨TX0, 4, tyX0, cl0, by decide, rfl, rfl, rfl, ax_mem1 363 (by decide +kernel) rfl⟩
theorem fRX0_21 : ax_FW RX0 21 0 0 (.int) false RX0 := ⟨TX0, 4, tyX0, cl0, by decide, rfl, rfl, rfl, ax_mem1 357 (by decide +kernel) rfl⟩
theorem fRX1_9 : ax_FW RX1 9 1 3 (.array .int) true RX1 := ⟨TX1, 8, tyX1, cl1, by decide, rfl, rfl, rfl, ax_mem1 250 (by decide +kernel) rfl⟩
theorem fRX1_15 : ax_FW RX1 15 1 4 (.array .int) true RX1 := ⟨TX1, 8, tyX1, cl1, by decide, rfl, rfl, rfl, ax_mem1 252 (by decide +kernel) rfl⟩
theorem fRX1_18 : ax_FW RX1 18 1 5 (.array .int) true RX1 := ⟨TX1, 8, tyX1, cl1, by decide, rfl, rfl, rfl, ax_mem1 253 (by decide +kernel) rfl⟩
theorem fRX1_21 : ax_FW RX1 21 1 6 (.array .int) true RX1 := ⟨TX1, 8, tyX1, cl1, by decide, rfl, rfl, rfl, ax_mem1 256 (by decide +kernel) rfl⟩
theorem fRX1_24 : ax_FW RX1 24 1 7 (.array .int) true RX1 := ⟨TX1, 8, tyX1, cl1, by decide, rfl, rfl, rfl, ax_mem1 259 (by decide +kernel) rfl⟩
theorem fRX1_27 : ax_FW RX1 27 1 0 (.int) false RX1 := ⟨TX1, 8, tyX1, cl1, by decide, rfl, rfl, rfl, ax_mem1 242 (by decide +kernel) rfl⟩
theorem fRX1_31 : ax_FW RX1 31 1 1 (.int) false RX1 := ⟨TX1, 8, tyX1, cl1, by decide, rfl, rfl, rfl, ax_mem1 244 (by decide +kernel) rfl⟩
theorem fRX1_34 : ax_FW RX1 34 1 2 (.int) false RX1 := ⟨TX1, 8, tyX1, cl1, by decide, rfl, rfl, rfl, ax_mem1 248 (by decide +kernel) rfl⟩
theorem fRX2_9 : ax_FW RX2 9 2 1 (.array .int) true RX2 := ⟨TX2, 10, tyX2, cl2, by decide, rfl, rfl, rfl, ax_mem1 198 (by decide +kernel) rfl⟩
theorem fRX2_15 : ax_FW RX2 15 2 2 (.array .int) true RX2 := ⟨TX2, 10, tyX2, cl2, by decide, rfl, rfl, rfl, ax_mem1 200 (by decide +kernel) rfl⟩
theorem fRX2_18 : ax_FW RX2 18 2 3 (.array .int) true RX2 := ⟨TX2, 10, tyX2, cl2, by decide, rfl, rfl, rfl, ax_mem1 202 (by decide +kernel) rfl⟩
theorem fRX2_21 : ax_FW RX2 21 2 4 (.array .int) true RX2 := ⟨TX2, 10, tyX2, cl2, by decide, rfl, rfl, rfl, ax_mem1 204 (by decide +kernel) rfl⟩
theorem fRX2_24 : ax_FW RX2 24 2 5 (.array .int) true RX2 := ⟨TX2, 10, tyX2, cl2, by decide, rfl, rfl, rfl, ax_mem1 206 (by decide +kernel) rfl⟩
theorem fRX2_27 : ax_FW RX2 27 2 6 (.array .int) true RX2 := ⟨TX2, 10, tyX2, cl2, by decide, rfl, rfl, rfl, ax_mem1 208 (by decide +kernel) rfl⟩
theorem fRX2_30 : ax_FW RX2 30 2 7 (.array .int) true RX2 := ⟨TX2, 10, tyX2, cl2, by decide, rfl, rfl, rfl, ax_mem1 210 (by decide +kernel) rfl⟩
theorem fRX2_33 : ax_FW RX2 33 2 8 (.array .int) true RX2 := ⟨TX2, 10, tyX2, cl2, by decide, rfl, rfl, rfl, ax_mem1 212 (by decide +kernel) rfl⟩
theorem fRX2_36 : ax_FW RX2 36 2 9 (.array .long) true RX2 := ⟨TX2, 10, tyX2, cl2, by decide, rfl, rfl, rfl, ax_mem1 214 (by decide +kernel) rfl⟩
theorem fRX2_40 : ax_FW RX2 40 2 0 (.int) false RX2 := ⟨TX2, 10, tyX2, cl2, by decide, rfl, rfl, rfl, ax_mem1 196 (by decide +kernel) rfl⟩
theorem fRX3_9 : ax_FW RX3 9 3 7 (.array .long) true RX3 := ⟨TX3, 13, tyX3, cl3, by decide, rfl, rfl, rfl, ax_mem1 95 (by decide +kernel) rfl⟩
theorem fRX3_15 : ax_FW RX3 15 3 8 (.array .int) true RX3 := ⟨TX3, 13, tyX3, cl3, by decide, rfl, rfl, rfl, ax_mem1 96 (by decide +kernel) rfl⟩
theorem fRX3_19 : ax_FW RX3 19 3 9 (.array .long) true RX3 := ⟨TX3, 13, tyX3, cl3, by decide, rfl, rfl, rfl, ax_mem1 97 (by decide +kernel) rfl⟩
theorem fRX3_22 : ax_FW RX3 22 3 10 (.array .long) true RX3 := ⟨TX3, 13, tyX3, cl3, by decide, rfl, rfl, rfl, ax_mem1 98 (by decide +kernel) rfl⟩
theorem fRX3_25 : ax_FW RX3 25 3 11 (.array .int) true RX3 := ⟨TX3, 13, tyX3, cl3, by decide, rfl, rfl, rfl, ax_mem1 99 (by decide +kernel) rfl⟩
theorem fRX3_28 : ax_FW RX3 28 3 12 (.array .int) true RX3 := ⟨TX3, 13, tyX3, cl3, by decide, rfl, rfl, rfl, ax_mem1 101 (by decide +kernel) rfl⟩
theorem fRX3_31 : ax_FW RX3 31 3 0 (.boolean) false RX3 := ⟨TX3, 13, tyX3, cl3, by decide, rfl, rfl, rfl, ax_mem1 75 (by decide +kernel) rfl⟩
theorem fRX3_35 : ax_FW RX3 35 3 1 (.int) false RX3 := ⟨TX3, 13, tyX3, cl3, by decide, rfl, rfl, rfl, ax_mem1 77 (by decide +kernel) rfl⟩
theorem fRX3_39 : ax_FW RX3 39 3 2 (.int) false RX3 := ⟨TX3, 13, tyX3, cl3, by decide, rfl, rfl, rfl, ax_mem1 80 (by decide +kernel) rfl⟩
theorem fRX3_42 : ax_FW RX3 42 3 3 (.int) false RX3 := ⟨TX3, 13, tyX3, cl3, by decide, rfl, rfl, rfl, ax_mem1 84 (by decide +kernel) rfl⟩
theorem fRX3_45 : ax_FW RX3 45 3 4 (.int) false RX3 := ⟨TX3, 13, tyX3, cl3, by decide, rfl, rfl, rfl, ax_mem1 87 (by decide +kernel) rfl⟩
theorem fRX3_48 : ax_FW RX3 48 3 5 (.int) false RX3 := ⟨TX3, 13, tyX3, cl3, by decide, rfl, rfl, rfl, ax_mem1 89 (by decide +kernel) rfl⟩
theorem fRX3_51 : ax_FW RX3 51 3 6 (.int) false RX3 := ⟨TX3, 13, tyX3, cl3, by decide, rfl, rfl, rfl, ax_mem1 92 (by decide +kernel) rfl⟩
theorem fRX4_9 : ax_FW RX4 9 4 0 (.array .int) true RX4 := ⟨TX4, 3, tyX4, cl4, by decide, rfl, rfl, rfl, ax_mem1 179 (by decide +kernel) rfl⟩
theorem fRX4_15 : ax_FW RX4 15 4 1 (.array .int) true RX4 := ⟨TX4, 3, tyX4, cl4, by decide, rfl, rfl, rfl, ax_mem1 181 (by decide +kernel) rfl⟩
theorem fRX4_18 : ax_FW RX4 18 4 2 (.int) false RX4 := ⟨TX4, 3, tyX4, cl4, by decide, rfl, rfl, rfl, ax_mem1 182 (by decide +kernel) rfl⟩
theorem fRX4_28 : ax_FW RX4 28 8 3 (.int) false RX8 := ⟨TX8, 4, tyX8, cl8, by decide, rfl, rfl, rfl, ax_mem1 138 (by decide +kernel) rfl⟩
theorem fRX4_33 : ax_FW RX4 33 8 1 (.array .int) true RX8 := ⟨TX8, 4, tyX8, cl8, by decide, rfl, rfl, rfl, ax_mem1 134 (by decide +kernel) rfl⟩
theorem fRX4_57 : ax_FW RX4 57 3 2 (.int) false RX3 := ⟨TX3, 13, tyX3, cl3, by decide, rfl, rfl, rfl, ax_mem1 81 (by decide +kernel) rfl⟩
theorem fRX4_79 : ax_FW RX4 79 2 8 (.array .int) true RX2 := ⟨TX2, 10, tyX2, cl2, by decide, rfl, rfl, rfl, ax_mem1 213 (by decide +kernel) rfl⟩
theorem fRX4_82 : ax_FW RX4 82 2 5 (.array .int) true RX2 := ⟨TX2, 10, tyX2, cl2, by decide, rfl, rfl, rfl, ax_mem1 207 (by decide +kernel) rfl⟩
theorem fRX5_9 : ax_FW RX5 9 5 2 (.array .int) true RX5 := ⟨TX5, 9, tyX5, cl5, by decide, rfl, rfl, rfl, ax_mem1 323 (by decide +kernel) rfl⟩
theorem fRX5_15 : ax_FW RX5 15 5 3 (.array .int) true RX5 := ⟨TX5, 9, tyX5, cl5, by decide, rfl, rfl, rfl, ax_mem1 325 (by decide +kernel) rfl⟩
theorem fRX5_18 : ax_FW RX5 18 5 4 (.array .int) true RX5 := ⟨TX5, 9, tyX5, cl5, by decide, rfl, rfl, rfl, ax_mem1 327 (by decide +kernel) rfl⟩
theorem fRX5_21 : ax_FW RX5 21 5 5 (.array .int) true RX5 := ⟨TX5, 9, tyX5, cl5, by decide, rfl, rfl, rfl, ax_mem1 328 (by decide +kernel) rfl⟩
theorem fRX5_24 : ax_FW RX5 24 5 6 (.array .int) true RX5 := ⟨TX5, 9, tyX5, cl5, by decide, rfl, rfl, rfl, ax_mem1 329 (by decide +kernel) rfl⟩
theorem fRX5_27 : ax_FW RX5 27 5 7 (.array .int) true RX5 := ⟨TX5, 9, tyX5, cl5, by decide, rfl, rfl, rfl, ax_mem1 330 (by decide +kernel) rfl⟩
theorem fRX5_30 : ax_FW RX5 30 5 8 (.array .int) true RX5 := ⟨TX5, 9, tyX5, cl5, by decide, rfl, rfl, rfl, ax_mem1 331 (by decide +kernel) rfl⟩
theorem fRX5_33 : ax_FW RX5 33 5 1 (.int) false RX5 := ⟨TX5, 9, tyX5, cl5, by decide, rfl, rfl, rfl, ax_mem1 321 (by decide +kernel) rfl⟩
theorem fRX5_37 : ax_FW RX5 37 5 0 (.int) false RX5 := ⟨TX5, 9, tyX5, cl5, by decide, rfl, rfl, rfl, ax_mem1 319 (by decide +kernel) rfl⟩
theorem fRX6_12 : ax_FW RX6 12 6 0 (.object "ExamTour$Tokens") true RX6 := ⟨TX6, 6, tyX6, cl6, by decide, rfl, rfl, rfl, ax_mem1 149 (by decide +kernel) rfl⟩
theorem fRX6_18 : ax_FW RX6 18 6 2 (.int) false RX6 := ⟨TX6, 6, tyX6, cl6, by decide, rfl, rfl, rfl, ax_mem1 153 (by decide +kernel) rfl⟩
theorem fRX6_25 : ax_FW RX6 25 6 3 (.object "ExamTour$Syllabus") false RX6 := ⟨TX6, 6, tyX6, cl6, by decide, rfl, rfl, rfl, ax_mem1 155 (by decide +kernel) rfl⟩
theorem fRX6_29 : ax_FW RX6 29 6 1 (.int) false RX6 := ⟨TX6, 6, tyX6, cl6, by decide, rfl, rfl, rfl, ax_mem1 151 (by decide +kernel) rfl⟩
theorem fRX6_32 : ax_FW RX6 32 6 5 (.int) false RX6 := ⟨TX6, 6, tyX6, cl6, by decide, rfl, rfl, rfl, ax_mem1 157 (by decide +kernel) rfl⟩
theorem fRX6_41 : ax_FW RX6 41 9 2 (.int) false RX9 := ⟨TX9, 7, tyX9, cl9, by decide, rfl, rfl, rfl, ax_mem1 37 (by decide +kernel) rfl⟩
theorem fRX6_62 : ax_FW RX6 62 9 3 (.int) false RX9 := ⟨TX9, 7, tyX9, cl9, by decide, rfl, rfl, rfl, ax_mem1 39 (by decide +kernel) rfl⟩
theorem fRX6_88 : ax_FW RX6 88 3 4 (.int) false RX3 := ⟨TX3, 13, tyX3, cl3, by decide, rfl, rfl, rfl, ax_mem1 88 (by decide +kernel) rfl⟩
theorem fRX6_93 : ax_FW RX6 93 8 3 (.int) false RX8 := ⟨TX8, 4, tyX8, cl8, by decide, rfl, rfl, rfl, ax_mem1 139 (by decide +kernel) rfl⟩
theorem fRX6_99 : ax_FW RX6 99 6 4 (.boolean) false RX6 := ⟨TX6, 6, tyX6, cl6, by decide, rfl, rfl, rfl, ax_mem1 156 (by decide +kernel) rfl⟩
theorem fRX6_110 : ax_FW RX6 110 3 1 (.int) false RX3 := ⟨TX3, 13, tyX3, cl3, by decide, rfl, rfl, rfl, ax_mem1 78 (by decide +kernel) rfl⟩
theorem fRX6_113 : ax_FW RX6 113 3 2 (.int) false RX3 := ⟨TX3, 13, tyX3, cl3, by decide, rfl, rfl, rfl, ax_mem1 83 (by decide +kernel) rfl⟩
theorem fRX6_116 : ax_FW RX6 116 3 3 (.int) false RX3 := ⟨TX3, 13, tyX3, cl3, by decide, rfl, rfl, rfl, ax_mem1 85 (by decide +kernel) rfl⟩
theorem fRX6_119 : ax_FW RX6 119 3 5 (.int) false RX3 := ⟨TX3, 13, tyX3, cl3, by decide, rfl, rfl, rfl, ax_mem1 90 (by decide +kernel) rfl⟩
theorem fRX6_122 : ax_FW RX6 122 3 6 (.int) false RX3 := ⟨TX3, 13, tyX3, cl3, by decide, rfl, rfl, rfl, ax_mem1 93 (by decide +kernel) rfl⟩
theorem fRX6_162 : ax_FW RX6 162 9 4 (.int) false RX9 := ⟨TX9, 7, tyX9, cl9, by decide, rfl, rfl, rfl, ax_mem1 42 (by decide +kernel) rfl⟩
theorem fRX6_165 : ax_FW RX6 165 9 5 (.long) false RX9 := ⟨TX9, 7, tyX9, cl9, by decide, rfl, rfl, rfl, ax_mem1 44 (by decide +kernel) rfl⟩
theorem fRX7_9 : ax_FW RX7 9 7 0 (.array .int) true RX7 := ⟨TX7, 9, tyX7, cl7, by decide, rfl, rfl, rfl, ax_mem1 283 (by decide +kernel) rfl⟩
theorem fRX7_15 : ax_FW RX7 15 7 1 (.array .boolean) true RX7 := ⟨TX7, 9, tyX7, cl7, by decide, rfl, rfl, rfl, ax_mem1 285 (by decide +kernel) rfl⟩
theorem fRX7_19 : ax_FW RX7 19 7 2 (.array .int) true RX7 := ⟨TX7, 9, tyX7, cl7, by decide, rfl, rfl, rfl, ax_mem1 286 (by decide +kernel) rfl⟩
theorem fRX7_22 : ax_FW RX7 22 7 5 (.array .int) false RX7 := ⟨TX7, 9, tyX7, cl7, by decide, rfl, rfl, rfl, ax_mem1 289 (by decide +kernel) rfl⟩
theorem fRX7_25 : ax_FW RX7 25 7 6 (.array .int) false RX7 := ⟨TX7, 9, tyX7, cl7, by decide, rfl, rfl, rfl, ax_mem1 290 (by decide +kernel) rfl⟩
theorem fRX7_28 : ax_FW RX7 28 7 7 (.array .long) false RX7 := ⟨TX7, 9, tyX7, cl7, by decide, rfl, rfl, rfl, ax_mem1 291 (by decide +kernel) rfl⟩
theorem fRX7_32 : ax_FW RX7 32 7 8 (.array .long) false RX7 := ⟨TX7, 9, tyX7, cl7, by decide, rfl, rfl, rfl, ax_mem1 292 (by decide +kernel) rfl⟩
theorem fRX7_39 : ax_FW RX7 39 7 3 (.int) false RX7 := ⟨TX7, 9, tyX7, cl7, by decide, rfl, rfl, rfl, ax_mem1 287 (by decide +kernel) rfl⟩
theorem fRX7_43 : ax_FW RX7 43 1 2 (.int) false RX1 := ⟨TX1, 8, tyX1, cl1, by decide, rfl, rfl, rfl, ax_mem1 247 (by decide +kernel) rfl⟩
theorem fRX7_48 : ax_FW RX7 48 1 6 (.array .int) true RX1 := ⟨TX1, 8, tyX1, cl1, by decide, rfl, rfl, rfl, ax_mem1 257 (by decide +kernel) rfl⟩
theorem fRX7_66 : ax_FW RX7 66 7 4 (.int) false RX7 := ⟨TX7, 9, tyX7, cl7, by decide, rfl, rfl, rfl, ax_mem1 288 (by decide +kernel) rfl⟩
theorem fRX7_82 : ax_FW RX7 82 1 1 (.int) false RX1 := ⟨TX1, 8, tyX1, cl1, by decide, rfl, rfl, rfl, ax_mem1 245 (by decide +kernel) rfl⟩
theorem fRX7_88 : ax_FW RX7 88 1 5 (.array .int) true RX1 := ⟨TX1, 8, tyX1, cl1, by decide, rfl, rfl, rfl, ax_mem1 254 (by decide +kernel) rfl⟩
theorem fRX7_98 : ax_FW RX7 98 1 3 (.array .int) true RX1 := ⟨TX1, 8, tyX1, cl1, by decide, rfl, rfl, rfl, ax_mem1 251 (by decide +kernel) rfl⟩
theorem fRX8_11 : ax_FW RX8 11 8 0 (.array (.object "ExamTour$Grade")) true RX8 := ⟨TX8, 4, tyX8, cl8, by decide, rfl, rfl, rfl, ax_mem1 132 (by decide +kernel) rfl⟩
theorem fRX8_17 : ax_FW RX8 17 8 1 (.array .int) true RX8 := ⟨TX8, 4, tyX8, cl8, by decide, rfl, rfl, rfl, ax_mem1 133 (by decide +kernel) rfl⟩
theorem fRX8_22 : ax_FW RX8 22 8 2 (.int) false RX8 := ⟨TX8, 4, tyX8, cl8, by decide, rfl, rfl, rfl, ax_mem1 135 (by decide +kernel) rfl⟩
theorem fRX8_26 : ax_FW RX8 26 8 3 (.int) false RX8 := ⟨TX8, 4, tyX8, cl8, by decide, rfl, rfl, rfl, ax_mem1 137 (by decide +kernel) rfl⟩
theorem fRX8_32 : ax_FW RX8 32 3 0 (.boolean) false RX3 := ⟨TX3, 13, tyX3, cl3, by decide, rfl, rfl, rfl, ax_mem1 76 (by decide +kernel) rfl⟩
theorem fRX9_9 : ax_FW RX9 9 9 0 (.array .byte) true RX9 := ⟨TX9, 7, tyX9, cl9, by decide, rfl, rfl, rfl, ax_mem1 34 (by decide +kernel) rfl⟩
theorem fRX9_15 : ax_FW RX9 15 9 1 (.int) false RX9 := ⟨TX9, 7, tyX9, cl9, by decide, rfl, rfl, rfl, ax_mem1 35 (by decide +kernel) rfl⟩
theorem fRX9_19 : ax_FW RX9 19 9 6 (.int) false RX9 := ⟨TX9, 7, tyX9, cl9, by decide, rfl, rfl, rfl, ax_mem1 45 (by decide +kernel) rfl⟩
theorem fRX9_33 : ax_FW RX9 33 9 3 (.int) false RX9 := ⟨TX9, 7, tyX9, cl9, by decide, rfl, rfl, rfl, ax_mem1 40 (by decide +kernel) rfl⟩
theorem fRX9_36 : ax_FW RX9 36 9 2 (.int) false RX9 := ⟨TX9, 7, tyX9, cl9, by decide, rfl, rfl, rfl, ax_mem1 38 (by decide +kernel) rfl⟩
theorem fRX9_54 : ax_FW RX9 54 9 5 (.long) false RX9 := ⟨TX9, 7, tyX9, cl9, by decide, rfl, rfl, rfl, ax_mem1 43 (by decide +kernel) rfl⟩
theorem fRX9_65 : ax_FW RX9 65 9 4 (.int) false RX9 := ⟨TX9, 7, tyX9, cl9, by decide, rfl, rfl, rfl, ax_mem1 41 (by decide +kernel) rfl⟩
theorem fRX11_1 : ax_FW RX11 1 11 3 (.int) false RX11 := ⟨TX11, 77, tyX11, cl11, by decide, rfl, rfl, rfl, ax_mem1 978 (by decide +kernel) rfl⟩
theorem fRX11_7 : ax_FW RX11 7 11 1 (.array .byte) true RX11 := ⟨TX11, 77, tyX11, cl11, by decide, rfl, rfl, rfl, ax_mem1 976 (by decide +kernel) rfl⟩
theorem fRX11_11 : ax_FW RX11 11 11 4 (.int) false RX11 := ⟨TX11, 77, tyX11, cl11, by decide, rfl, rfl, rfl, ax_mem1 979 (by decide +kernel) rfl⟩
theorem fRX11_14 : ax_FW RX11 14 11 5 (.int) false RX11 := ⟨TX11, 77, tyX11, cl11, by decide, rfl, rfl, rfl, ax_mem1 980 (by decide +kernel) rfl⟩
theorem fRX11_51 : ax_FW RX11 51 11 7 (.int) false RX11 := ⟨TX11, 77, tyX11, cl11, by decide, rfl, rfl, rfl, ax_mem1 982 (by decide +kernel) rfl⟩
theorem fRX11_54 : ax_FW RX11 54 11 6 (.int) false RX11 := ⟨TX11, 77, tyX11, cl11, by decide, rfl, rfl, rfl, ax_mem1 981 (by decide +kernel) rfl⟩
theorem fRX11_61 : ax_FW RX11 61 11 8 (.int) false RX11 := ⟨TX11, 77, tyX11, cl11, by decide, rfl, rfl, rfl, ax_mem1 983 (by decide +kernel) rfl⟩
theorem fRX11_71 : ax_FW RX11 71 11 10 (.long) false RX11 := ⟨TX11, 77, tyX11, cl11, by decide, rfl, rfl, rfl, ax_mem1 985 (by decide +kernel) rfl⟩
theorem fRX11_78 : ax_FW RX11 78 11 9 (.int) false RX11 := ⟨TX11, 77, tyX11, cl11, by decide, rfl, rfl, rfl, ax_mem1 984 (by decide +kernel) rfl⟩
theorem fRX11_104 : ax_FW RX11 104 11 0 (.array .byte) true RX11 := ⟨TX11, 77, tyX11, cl11, by decide, rfl, rfl, rfl, ax_mem1 975 (by decide +kernel) rfl⟩
theorem fRX11_107 : ax_FW RX11 107 11 11 (.array .int) true RX11 := ⟨TX11, 77, tyX11, cl11, by decide, rfl, rfl, rfl, ax_mem1 986 (by decide +kernel) rfl⟩
theorem fRX11_111 : ax_FW RX11 111 11 12 (.int) false RX11 := ⟨TX11, 77, tyX11, cl11, by decide, rfl, rfl, rfl, ax_mem1 987 (by decide +kernel) rfl⟩
theorem fRX11_114 : ax_FW RX11 114 11 15 (.array .boolean) true RX11 := ⟨TX11, 77, tyX11, cl11, by decide, rfl, rfl, rfl, ax_mem1 990 (by decide +kernel) rfl⟩
theorem fRX11_118 : ax_FW RX11 118 11 16 (.array .boolean) true RX11 := ⟨TX11, 77, tyX11, cl11, by decide, rfl, rfl, rfl, ax_mem1 991 (by decide +kernel) rfl⟩
theorem fRX11_121 : ax_FW RX11 121 11 17 (.array .int) true RX11 := ⟨TX11, 77, tyX11, cl11, by decide, rfl, rfl, rfl, ax_mem1 992 (by decide +kernel) rfl⟩
theorem fRX11_124 : ax_FW RX11 124 11 18 (.array .int) true RX11 := ⟨TX11, 77, tyX11, cl11, by decide, rfl, rfl, rfl, ax_mem1 993 (by decide +kernel) rfl⟩
theorem fRX11_127 : ax_FW RX11 127 11 19 (.array .int) true RX11 := ⟨TX11, 77, tyX11, cl11, by decide, rfl, rfl, rfl, ax_mem1 994 (by decide +kernel) rfl⟩
theorem fRX11_130 : ax_FW RX11 130 11 20 (.array .int) true RX11 := ⟨TX11, 77, tyX11, cl11, by decide, rfl, rfl, rfl, ax_mem1 995 (by decide +kernel) rfl⟩
theorem fRX11_133 : ax_FW RX11 133 11 21 (.array .int) true RX11 := ⟨TX11, 77, tyX11, cl11, by decide, rfl, rfl, rfl, ax_mem1 996 (by decide +kernel) rfl⟩
theorem fRX11_136 : ax_FW RX11 136 11 22 (.array .int) true RX11 := ⟨TX11, 77, tyX11, cl11, by decide, rfl, rfl, rfl, ax_mem1 997 (by decide +kernel) rfl⟩
theorem fRX11_139 : ax_FW RX11 139 11 23 (.array .int) true RX11 := ⟨TX11, 77, tyX11, cl11, by decide, rfl, rfl, rfl, ax_mem1 998 (by decide +kernel) rfl⟩
theorem fRX11_142 : ax_FW RX11 142 11 24 (.array .int) true RX11 := ⟨TX11, 77, tyX11, cl11, by decide, rfl, rfl, rfl, ax_mem1 999 (by decide +kernel) rfl⟩
theorem fRX11_145 : ax_FW RX11 145 11 25 (.array .int) true RX11 := ⟨TX11, 77, tyX11, cl11, by decide, rfl, rfl, rfl, ax_mem1 1000 (by decide +kernel) rfl⟩
theorem fRX11_148 : ax_FW RX11 148 11 26 (.array .int) true RX11 := ⟨TX11, 77, tyX11, cl11, by decide, rfl, rfl, rfl, ax_mem1 1001 (by decide +kernel) rfl⟩
theorem fRX11_151 : ax_FW RX11 151 11 27 (.array .int) true RX11 := ⟨TX11, 77, tyX11, cl11, by decide, rfl, rfl, rfl, ax_mem1 1002 (by decide +kernel) rfl⟩
theorem fRX11_154 : ax_FW RX11 154 11 28 (.array .int) true RX11 := ⟨TX11, 77, tyX11, cl11, by decide, rfl, rfl, rfl, ax_mem1 1003 (by decide +kernel) rfl⟩
theorem fRX11_157 : ax_FW RX11 157 11 29 (.array .int) true RX11 := ⟨TX11, 77, tyX11, cl11, by decide, rfl, rfl, rfl, ax_mem1 1004 (by decide +kernel) rfl⟩
theorem fRX11_160 : ax_FW RX11 160 11 30 (.array .int) true RX11 := ⟨TX11, 77, tyX11, cl11, by decide, rfl, rfl, rfl, ax_mem1 1005 (by decide +kernel) rfl⟩
theorem fRX11_163 : ax_FW RX11 163 11 31 (.array .int) true RX11 := ⟨TX11, 77, tyX11, cl11, by decide, rfl, rfl, rfl, ax_mem1 1006 (by decide +kernel) rfl⟩
theorem fRX11_166 : ax_FW RX11 166 11 32 (.array .long) true RX11 := ⟨TX11, 77, tyX11, cl11, by decide, rfl, rfl, rfl, ax_mem1 1007 (by decide +kernel) rfl⟩
theorem fRX11_170 : ax_FW RX11 170 11 33 (.array .long) true RX11 := ⟨TX11, 77, tyX11, cl11, by decide, rfl, rfl, rfl, ax_mem1 1008 (by decide +kernel) rfl⟩
theorem fRX11_173 : ax_FW RX11 173 11 34 (.array .long) true RX11 := ⟨TX11, 77, tyX11, cl11, by decide, rfl, rfl, rfl, ax_mem1 1009 (by decide +kernel) rfl⟩
theorem fRX11_176 : ax_FW RX11 176 11 35 (.array .int) true RX11 := ⟨TX11, 77, tyX11, cl11, by decide, rfl, rfl, rfl, ax_mem1 1010 (by decide +kernel) rfl⟩
theorem fRX11_179 : ax_FW RX11 179 11 36 (.array .int) true RX11 := ⟨TX11, 77, tyX11, cl11, by decide, rfl, rfl, rfl, ax_mem1 1011 (by decide +kernel) rfl⟩
theorem fRX11_182 : ax_FW RX11 182 11 39 (.array .int) true RX11 := ⟨TX11, 77, tyX11, cl11, by decide, rfl, rfl, rfl, ax_mem1 1014 (by decide +kernel) rfl⟩
theorem fRX11_185 : ax_FW RX11 185 11 40 (.array .int) true RX11 := ⟨TX11, 77, tyX11, cl11, by decide, rfl, rfl, rfl, ax_mem1 1015 (by decide +kernel) rfl⟩
theorem fRX11_188 : ax_FW RX11 188 11 41 (.array .int) true RX11 := ⟨TX11, 77, tyX11, cl11, by decide, rfl, rfl, rfl, ax_mem1 1016 (by decide +kernel) rfl⟩
theorem fRX11_191 : ax_FW RX11 191 11 42 (.array .int) true RX11 := ⟨TX11, 77, tyX11, cl11, by decide, rfl, rfl, rfl, ax_mem1 1017 (by decide +kernel) rfl⟩
theorem fRX11_194 : ax_FW RX11 194 11 43 (.array .int) true RX11 := ⟨TX11, 77, tyX11, cl11, by decide, rfl, rfl, rfl, ax_mem1 1018 (by decide +kernel) rfl⟩
theorem fRX11_197 : ax_FW RX11 197 11 44 (.array .int) true RX11 := ⟨TX11, 77, tyX11, cl11, by decide, rfl, rfl, rfl, ax_mem1 1019 (by decide +kernel) rfl⟩
theorem fRX11_200 : ax_FW RX11 200 11 45 (.array .int) true RX11 := ⟨TX11, 77, tyX11, cl11, by decide, rfl, rfl, rfl, ax_mem1 1020 (by decide +kernel) rfl⟩
theorem fRX11_203 : ax_FW RX11 203 11 46 (.array .int) true RX11 := ⟨TX11, 77, tyX11, cl11, by decide, rfl, rfl, rfl, ax_mem1 1021 (by decide +kernel) rfl⟩
theorem fRX11_206 : ax_FW RX11 206 11 47 (.array .long) true RX11 := ⟨TX11, 77, tyX11, cl11, by decide, rfl, rfl, rfl, ax_mem1 1022 (by decide +kernel) rfl⟩
theorem fRX11_209 : ax_FW RX11 209 11 49 (.array .int) true RX11 := ⟨TX11, 77, tyX11, cl11, by decide, rfl, rfl, rfl, ax_mem1 1024 (by decide +kernel) rfl⟩
theorem fRX11_212 : ax_FW RX11 212 11 50 (.array .int) true RX11 := ⟨TX11, 77, tyX11, cl11, by decide, rfl, rfl, rfl, ax_mem1 1025 (by decide +kernel) rfl⟩
theorem fRX11_215 : ax_FW RX11 215 11 51 (.array .int) true RX11 := ⟨TX11, 77, tyX11, cl11, by decide, rfl, rfl, rfl, ax_mem1 1026 (by decide +kernel) rfl⟩
theorem fRX11_218 : ax_FW RX11 218 11 52 (.array .int) true RX11 := ⟨TX11, 77, tyX11, cl11, by decide, rfl, rfl, rfl, ax_mem1 1027 (by decide +kernel) rfl⟩
theorem fRX11_221 : ax_FW RX11 221 11 53 (.array .int) true RX11 := ⟨TX11, 77, tyX11, cl11, by decide, rfl, rfl, rfl, ax_mem1 1028 (by decide +kernel) rfl⟩
theorem fRX11_224 : ax_FW RX11 224 11 54 (.array .int) true RX11 := ⟨TX11, 77, tyX11, cl11, by decide, rfl, rfl, rfl, ax_mem1 1029 (by decide +kernel) rfl⟩
theorem fRX11_227 : ax_FW RX11 227 11 55 (.array .int) true RX11 := ⟨TX11, 77, tyX11, cl11, by decide, rfl, rfl, rfl, ax_mem1 1030 (by decide +kernel) rfl⟩
theorem fRX11_230 : ax_FW RX11 230 11 59 (.array .int) true RX11 := ⟨TX11, 77, tyX11, cl11, by decide, rfl, rfl, rfl, ax_mem1 1034 (by decide +kernel) rfl⟩
theorem fRX11_233 : ax_FW RX11 233 11 60 (.array .int) true RX11 := ⟨TX11, 77, tyX11, cl11, by decide, rfl, rfl, rfl, ax_mem1 1035 (by decide +kernel) rfl⟩
theorem fRX11_236 : ax_FW RX11 236 11 61 (.array .int) true RX11 := ⟨TX11, 77, tyX11, cl11, by decide, rfl, rfl, rfl, ax_mem1 1036 (by decide +kernel) rfl⟩
theorem fRX11_239 : ax_FW RX11 239 11 62 (.array .int) true RX11 := ⟨TX11, 77, tyX11, cl11, by decide, rfl, rfl, rfl, ax_mem1 1037 (by decide +kernel) rfl⟩
theorem fRX11_242 : ax_FW RX11 242 11 64 (.array .int) true RX11 := ⟨TX11, 77, tyX11, cl11, by decide, rfl, rfl, rfl, ax_mem1 1039 (by decide +kernel) rfl⟩
theorem fRX11_245 : ax_FW RX11 245 11 65 (.array .int) true RX11 := ⟨TX11, 77, tyX11, cl11, by decide, rfl, rfl, rfl, ax_mem1 1040 (by decide +kernel) rfl⟩
theorem fRX11_248 : ax_FW RX11 248 11 66 (.array .int) true RX11 := ⟨TX11, 77, tyX11, cl11, by decide, rfl, rfl, rfl, ax_mem1 1041 (by decide +kernel) rfl⟩
theorem fRX11_251 : ax_FW RX11 251 11 67 (.array .int) true RX11 := ⟨TX11, 77, tyX11, cl11, by decide, rfl, rfl, rfl, ax_mem1 1042 (by decide +kernel) rfl⟩
theorem fRX11_254 : ax_FW RX11 254 11 68 (.array .int) true RX11 := ⟨TX11, 77, tyX11, cl11, by decide, rfl, rfl, rfl, ax_mem1 1043 (by decide +kernel) rfl⟩
theorem fRX11_257 : ax_FW RX11 257 11 69 (.array .int) true RX11 := ⟨TX11, 77, tyX11, cl11, by decide, rfl, rfl, rfl, ax_mem1 1044 (by decide +kernel) rfl⟩
theorem fRX11_260 : ax_FW RX11 260 11 72 (.array .int) true RX11 := ⟨TX11, 77, tyX11, cl11, by decide, rfl, rfl, rfl, ax_mem1 1047 (by decide +kernel) rfl⟩
theorem fRX11_263 : ax_FW RX11 263 11 73 (.array .int) true RX11 := ⟨TX11, 77, tyX11, cl11, by decide, rfl, rfl, rfl, ax_mem1 1048 (by decide +kernel) rfl⟩
theorem fRX11_266 : ax_FW RX11 266 11 74 (.array .int) true RX11 := ⟨TX11, 77, tyX11, cl11, by decide, rfl, rfl, rfl, ax_mem1 1049 (by decide +kernel) rfl⟩
theorem fRX11_269 : ax_FW RX11 269 11 75 (.array .int) true RX11 := ⟨TX11, 77, tyX11, cl11, by decide, rfl, rfl, rfl, ax_mem1 1050 (by decide +kernel) rfl⟩
theorem fRX11_272 : ax_FW RX11 272 11 2 (.int) false RX11 := ⟨TX11, 77, tyX11, cl11, by decide, rfl, rfl, rfl, ax_mem1 977 (by decide +kernel) rfl⟩
theorem fRX11_275 : ax_FW RX11 275 11 13 (.int) false RX11 := ⟨TX11, 77, tyX11, cl11, by decide, rfl, rfl, rfl, ax_mem1 988 (by decide +kernel) rfl⟩
theorem fRX11_278 : ax_FW RX11 278 11 14 (.int) false RX11 := ⟨TX11, 77, tyX11, cl11, by decide, rfl, rfl, rfl, ax_mem1 989 (by decide +kernel) rfl⟩
theorem fRX11_322 : ax_FW RX11 322 11 37 (.int) false RX11 := ⟨TX11, 77, tyX11, cl11, by decide, rfl, rfl, rfl, ax_mem1 1012 (by decide +kernel) rfl⟩
theorem fRX11_325 : ax_FW RX11 325 11 38 (.int) false RX11 := ⟨TX11, 77, tyX11, cl11, by decide, rfl, rfl, rfl, ax_mem1 1013 (by decide +kernel) rfl⟩
theorem fRX11_354 : ax_FW RX11 354 11 48 (.int) false RX11 := ⟨TX11, 77, tyX11, cl11, by decide, rfl, rfl, rfl, ax_mem1 1023 (by decide +kernel) rfl⟩
theorem fRX11_357 : ax_FW RX11 357 11 57 (.int) false RX11 := ⟨TX11, 77, tyX11, cl11, by decide, rfl, rfl, rfl, ax_mem1 1032 (by decide +kernel) rfl⟩
theorem fRX11_394 : ax_FW RX11 394 11 56 (.int) false RX11 := ⟨TX11, 77, tyX11, cl11, by decide, rfl, rfl, rfl, ax_mem1 1031 (by decide +kernel) rfl⟩
theorem fRX11_400 : ax_FW RX11 400 11 58 (.int) false RX11 := ⟨TX11, 77, tyX11, cl11, by decide, rfl, rfl, rfl, ax_mem1 1033 (by decide +kernel) rfl⟩
theorem fRX11_409 : ax_FW RX11 409 11 70 (.int) false RX11 := ⟨TX11, 77, tyX11, cl11, by decide, rfl, rfl, rfl, ax_mem1 1045 (by decide +kernel) rfl⟩
theorem fRX11_435 : ax_FW RX11 435 11 63 (.int) false RX11 := ⟨TX11, 77, tyX11, cl11, by decide, rfl, rfl, rfl, ax_mem1 1038 (by decide +kernel) rfl⟩
theorem fRX11_438 : ax_FW RX11 438 11 71 (.int) false RX11 := ⟨TX11, 77, tyX11, cl11, by decide, rfl, rfl, rfl, ax_mem1 1046 (by decide +kernel) rfl⟩
theorem fRX11_463 : ax_FW RX11 463 11 76 (.int) false RX11 := ⟨TX11, 77, tyX11, cl11, by decide, rfl, rfl, rfl, ax_mem1 1051 (by decide +kernel) rfl⟩
abbrev mX10_init : ax_M := (yX10_init, cX10_init, 1, none, 102, 6009)
theorem cw_X10_init : ax_CW mX10_init 0 := ⟨ax_mem1 1 (by decide +kernel) rfl, ax_mem1 18 (by decide +kernel) rfl, ⟨by decide +kernel, by decide +kernel, by decide +kernel⟩, by decide⟩
theorem im_X10_init : Cond.instanceMethod mX10_init.1 ∈ ax_ws := ax_mem1 17 (by decide +kernel) rfl
abbrev mX6_init : ax_M := (yX6_init, cX6_init, 1, none, 61, 3105)
theorem cw_X6_init : ax_CW mX6_init 0 := ⟨ax_mem1 2 (by decide +kernel) rfl, ax_mem1 26 (by decide +kernel) rfl, ⟨by decide +kernel, by decide +kernel, by decide +kernel⟩, by decide⟩
theorem im_X6_init : Cond.instanceMethod mX6_init.1 ∈ ax_ws := ax_mem1 25 (by decide +kernel) rfl
abbrev mX9_init : ax_M := (yX9_init, cX9_init, 1, none, 1, 1400)
theorem cw_X9_init : ax_CW mX9_init 0 := ⟨ax_mem1 3 (by decide +kernel) rfl, ax_mem1 32 (by decide +kernel) rfl, ⟨by decide +kernel, by decide +kernel, by decide +kernel⟩, by decide⟩
theorem im_X9_init : Cond.instanceMethod mX9_init.1 ∈ ax_ws := ax_mem1 31 (by decide +kernel) rfl
abbrev mX8_init : ax_M := (yX8_init, cX8_init, 2, none, 58, 1694)
theorem cw_X8_init : ax_CW mX8_init 0 := ⟨ax_mem1 4 (by decide +kernel) rfl, ax_mem1 66 (by decide +kernel) rfl, ⟨by decide +kernel, by decide +kernel, by decide +kernel⟩, by decide⟩
theorem im_X8_init : Cond.instanceMethod mX8_init.1 ∈ ax_ws := ax_mem1 65 (by decide +kernel) rfl
abbrev mX3_init : ax_M := (yX3_init, cX3_init, 1, none, 6, 104)
theorem cw_X3_init : ax_CW mX3_init 0 := ⟨ax_mem1 5 (by decide +kernel) rfl, ax_mem1 73 (by decide +kernel) rfl, ⟨by decide +kernel, by decide +kernel, by decide +kernel⟩, by decide⟩
theorem im_X3_init : Cond.instanceMethod mX3_init.1 ∈ ax_ws := ax_mem1 72 (by decide +kernel) rfl
abbrev mX4_init : ax_M := (yX4_init, cX4_init, 1, none, 2, 156)
theorem cw_X4_init : ax_CW mX4_init 0 := ⟨ax_mem1 6 (by decide +kernel) rfl, ax_mem1 177 (by decide +kernel) rfl, ⟨by decide +kernel, by decide +kernel, by decide +kernel⟩, by decide⟩
theorem im_X4_init : Cond.instanceMethod mX4_init.1 ∈ ax_ws := ax_mem1 176 (by decide +kernel) rfl
abbrev mX2_init : ax_M := (yX2_init, cX2_init, 1, none, 9, 480)
theorem cw_X2_init : ax_CW mX2_init 0 := ⟨ax_mem1 7 (by decide +kernel) rfl, ax_mem1 194 (by decide +kernel) rfl, ⟨by decide +kernel, by decide +kernel, by decide +kernel⟩, by decide⟩
theorem im_X2_init : Cond.instanceMethod mX2_init.1 ∈ ax_ws := ax_mem1 193 (by decide +kernel) rfl
abbrev mX1_init : ax_M := (yX1_init, cX1_init, 1, none, 5, 92)
theorem cw_X1_init : ax_CW mX1_init 0 := ⟨ax_mem1 8 (by decide +kernel) rfl, ax_mem1 240 (by decide +kernel) rfl, ⟨by decide +kernel, by decide +kernel, by decide +kernel⟩, by decide⟩
theorem im_X1_init : Cond.instanceMethod mX1_init.1 ∈ ax_ws := ax_mem1 239 (by decide +kernel) rfl
abbrev mX7_init : ax_M := (yX7_init, cX7_init, 2, none, 7, 543)
theorem cw_X7_init : ax_CW mX7_init 0 := ⟨ax_mem1 9 (by decide +kernel) rfl, ax_mem1 281 (by decide +kernel) rfl, ⟨by decide +kernel, by decide +kernel, by decide +kernel⟩, by decide⟩
theorem im_X7_init : Cond.instanceMethod mX7_init.1 ∈ ax_ws := ax_mem1 280 (by decide +kernel) rfl
abbrev mX5_init : ax_M := (yX5_init, cX5_init, 1, none, 7, 1400)
theorem cw_X5_init : ax_CW mX5_init 0 := ⟨ax_mem1 10 (by decide +kernel) rfl, ax_mem1 317 (by decide +kernel) rfl, ⟨by decide +kernel, by decide +kernel, by decide +kernel⟩, by decide⟩
theorem im_X5_init : Cond.instanceMethod mX5_init.1 ∈ ax_ws := ax_mem1 316 (by decide +kernel) rfl
abbrev mX0_init : ax_M := (yX0_init, cX0_init, 1, none, 3, 180)
theorem cw_X0_init : ax_CW mX0_init 0 := ⟨ax_mem1 11 (by decide +kernel) rfl, ax_mem1 355 (by decide +kernel) rfl, ⟨by decide +kernel, by decide +kernel, by decide +kernel⟩, by decide⟩
theorem im_X0_init : Cond.instanceMethod mX0_init.1 ∈ ax_ws := ax_mem1 354 (by decide +kernel) rfl
abbrev mX10_feed : ax_M := (yX10_feed, cX10_feed, 7, some (.int), 0, 0)
theorem cw_X10_feed : ax_CW mX10_feed 5 := ⟨ax_mem1 1 (by decide +kernel) rfl, ax_mem1 402 (by decide +kernel) rfl, ⟨by decide +kernel, by decide +kernel, by decide +kernel⟩, by decide⟩
theorem im_X10_feed : Cond.instanceMethod mX10_feed.1 ∈ ax_ws := ax_mem1 400 (by decide +kernel) rfl
theorem sl_X10_feed : Cond.selects mX10_feed.1.cls mX10_feed.1 mX10_feed.1 ∈ ax_ws := ax_mem1 401 (by decide +kernel) rfl
abbrev mX9_append : ax_M := (yX9_append, cX9_append, 3, none, 0, 0)
theorem cw_X9_append : ax_CW mX9_append 1 := ⟨ax_mem1 3 (by decide +kernel) rfl, ax_mem1 406 (by decide +kernel) rfl, ⟨by decide +kernel, by decide +kernel, by decide +kernel⟩, by decide⟩
theorem im_X9_append : Cond.instanceMethod mX9_append.1 ∈ ax_ws := ax_mem1 404 (by decide +kernel) rfl
theorem sl_X9_append : Cond.selects mX9_append.1.cls mX9_append.1 mX9_append.1 ∈ ax_ws := ax_mem1 405 (by decide +kernel) rfl
abbrev mX10_end : ax_M := (yX10_end, cX10_end, 2, some (.int), 0, 0)
theorem cw_X10_end : ax_CW mX10_end 1 := ⟨ax_mem1 1 (by decide +kernel) rfl, ax_mem1 410 (by decide +kernel) rfl, ⟨by decide +kernel, by decide +kernel, by decide +kernel⟩, by decide⟩
theorem im_X10_end : Cond.instanceMethod mX10_end.1 ∈ ax_ws := ax_mem1 408 (by decide +kernel) rfl
theorem sl_X10_end : Cond.selects mX10_end.1.cls mX10_end.1 mX10_end.1 ∈ ax_ws := ax_mem1 409 (by decide +kernel) rfl
abbrev mX10_syllabus : ax_M := (yX10_syllabus, cX10_syllabus, 2, some (.int), 59, 1698)
theorem cw_X10_syllabus : ax_CW mX10_syllabus 1 := ⟨ax_mem1 1 (by decide +kernel) rfl, ax_mem1 414 (by decide +kernel) rfl, ⟨by decide +kernel, by decide +kernel, by decide +kernel⟩, by decide⟩
theorem im_X10_syllabus : Cond.instanceMethod mX10_syllabus.1 ∈ ax_ws := ax_mem1 412 (by decide +kernel) rfl
theorem sl_X10_syllabus : Cond.selects mX10_syllabus.1.cls mX10_syllabus.1 mX10_syllabus.1 ∈ ax_ws := ax_mem1 413 (by decide +kernel) rfl
abbrev mX10_isTerm : ax_M := (yX10_isTerm, cX10_isTerm, 1, some (.boolean), 0, 0)
theorem cw_X10_isTerm : ax_CW mX10_isTerm 1 := ⟨ax_mem1 1 (by decide +kernel) rfl, ax_mem1 417 (by decide +kernel) rfl, ⟨by decide +kernel, by decide +kernel, by decide +kernel⟩, by decide⟩
theorem sm_X10_isTerm : Cond.static mX10_isTerm.1 ∈ ax_ws := ax_mem1 416 (by decide +kernel) rfl
abbrev mX6_read : ax_M := (yX6_read, cX6_read, 3, none, 0, 0)
theorem cw_X6_read : ax_CW mX6_read 0 := ⟨ax_mem1 2 (by decide +kernel) rfl, ax_mem1 421 (by decide +kernel) rfl, ⟨by decide +kernel, by decide +kernel, by decide +kernel⟩, by decide⟩
theorem im_X6_read : Cond.instanceMethod mX6_read.1 ∈ ax_ws := ax_mem1 419 (by decide +kernel) rfl
theorem sl_X6_read : Cond.selects mX6_read.1.cls mX6_read.1 mX6_read.1 ∈ ax_ws := ax_mem1 420 (by decide +kernel) rfl
abbrev mX8_clear : ax_M := (yX8_clear, cX8_clear, 2, none, 0, 0)
theorem cw_X8_clear : ax_CW mX8_clear 0 := ⟨ax_mem1 4 (by decide +kernel) rfl, ax_mem1 425 (by decide +kernel) rfl, ⟨by decide +kernel, by decide +kernel, by decide +kernel⟩, by decide⟩
theorem im_X8_clear : Cond.instanceMethod mX8_clear.1 ∈ ax_ws := ax_mem1 423 (by decide +kernel) rfl
theorem sl_X8_clear : Cond.selects mX8_clear.1.cls mX8_clear.1 mX8_clear.1 ∈ ax_ws := ax_mem1 424 (by decide +kernel) rfl
abbrev mX3_clear : ax_M := (yX3_clear, cX3_clear, 1, none, 0, 0)
theorem cw_X3_clear : ax_CW mX3_clear 0 := ⟨ax_mem1 5 (by decide +kernel) rfl, ax_mem1 429 (by decide +kernel) rfl, ⟨by decide +kernel, by decide +kernel, by decide +kernel⟩, by decide⟩
theorem im_X3_clear : Cond.instanceMethod mX3_clear.1 ∈ ax_ws := ax_mem1 427 (by decide +kernel) rfl
theorem sl_X3_clear : Cond.selects mX3_clear.1.cls mX3_clear.1 mX3_clear.1 ∈ ax_ws := ax_mem1 428 (by decide +kernel) rfl
abbrev mX9_rewind : ax_M := (yX9_rewind, cX9_rewind, 1, none, 0, 0)
theorem cw_X9_rewind : ax_CW mX9_rewind 0 := ⟨ax_mem1 3 (by decide +kernel) rfl, ax_mem1 433 (by decide +kernel) rfl, ⟨by decide +kernel, by decide +kernel, by decide +kernel⟩, by decide⟩
theorem im_X9_rewind : Cond.instanceMethod mX9_rewind.1 ∈ ax_ws := ax_mem1 431 (by decide +kernel) rfl
theorem sl_X9_rewind : Cond.selects mX9_rewind.1.cls mX9_rewind.1 mX9_rewind.1 ∈ ax_ws := ax_mem1 432 (by decide +kernel) rfl
abbrev mX9_next : ax_M := (yX9_next, cX9_next, 2, none, 0, 0)
theorem cw_X9_next : ax_CW mX9_next 0 := ⟨ax_mem1 3 (by decide +kernel) rfl, ax_mem1 437 (by decide +kernel) rfl, ⟨by decide +kernel, by decide +kernel, by decide +kernel⟩, by decide⟩
theorem im_X9_next : Cond.instanceMethod mX9_next.1 ∈ ax_ws := ax_mem1 435 (by decide +kernel) rfl
theorem sl_X9_next : Cond.selects mX9_next.1.cls mX9_next.1 mX9_next.1 ∈ ax_ws := ax_mem1 436 (by decide +kernel) rfl
abbrev mX9_byteAt : ax_M := (yX9_byteAt, cX9_byteAt, 2, some (.int), 0, 0)
theorem cw_X9_byteAt : ax_CW mX9_byteAt 1 := ⟨ax_mem1 3 (by decide +kernel) rfl, ax_mem1 441 (by decide +kernel) rfl, ⟨by decide +kernel, by decide +kernel, by decide +kernel⟩, by decide⟩
theorem im_X9_byteAt : Cond.instanceMethod mX9_byteAt.1 ∈ ax_ws := ax_mem1 440 (by decide +kernel) rfl
theorem sl_X9_byteAt : Cond.selects mX9_byteAt.1.cls mX9_byteAt.1 mX9_byteAt.1 ∈ ax_ws := ax_memS (n := 7) 0 (by decide +kernel) rfl
abbrev mX9_isBlank : ax_M := (yX9_isBlank, cX9_isBlank, 1, some (.boolean), 0, 0)
theorem cw_X9_isBlank : ax_CW mX9_isBlank 1 := ⟨ax_mem1 3 (by decide +kernel) rfl, ax_mem1 444 (by decide +kernel) rfl, ⟨by decide +kernel, by decide +kernel, by decide +kernel⟩, by decide⟩
theorem sm_X9_isBlank : Cond.static mX9_isBlank.1 ∈ ax_ws := ax_mem1 443 (by decide +kernel) rfl
abbrev mX9_isLetter : ax_M := (yX9_isLetter, cX9_isLetter, 1, some (.boolean), 0, 0)
theorem cw_X9_isLetter : ax_CW mX9_isLetter 1 := ⟨ax_mem1 3 (by decide +kernel) rfl, ax_mem1 447 (by decide +kernel) rfl, ⟨by decide +kernel, by decide +kernel, by decide +kernel⟩, by decide⟩
theorem sm_X9_isLetter : Cond.static mX9_isLetter.1 ∈ ax_ws := ax_mem1 446 (by decide +kernel) rfl
abbrev mX9_readWord : ax_M := (yX9_readWord, cX9_readWord, 1, none, 0, 0)
theorem cw_X9_readWord : ax_CW mX9_readWord 0 := ⟨ax_mem1 3 (by decide +kernel) rfl, ax_mem1 451 (by decide +kernel) rfl, ⟨by decide +kernel, by decide +kernel, by decide +kernel⟩, by decide⟩
theorem im_X9_readWord : Cond.instanceMethod mX9_readWord.1 ∈ ax_ws := ax_mem1 450 (by decide +kernel) rfl
theorem sl_X9_readWord : Cond.selects mX9_readWord.1.cls mX9_readWord.1 mX9_readWord.1 ∈ ax_ws := ax_memS (n := 7) 1 (by decide +kernel) rfl
abbrev mX9_isLetterOrDigit : ax_M := (yX9_isLetterOrDigit, cX9_isLetterOrDigit, 1, some (.boolean), 0, 0)
theorem cw_X9_isLetterOrDigit : ax_CW mX9_isLetterOrDigit 1 := ⟨ax_mem1 3 (by decide +kernel) rfl, ax_mem1 454 (by decide +kernel) rfl, ⟨by decide +kernel, by decide +kernel, by decide +kernel⟩, by decide⟩
theorem sm_X9_isLetterOrDigit : Cond.static mX9_isLetterOrDigit.1 ∈ ax_ws := ax_mem1 453 (by decide +kernel) rfl
abbrev mX9_kindOf : ax_M := (yX9_kindOf, cX9_kindOf, 3, some (.int), 0, 0)
theorem cw_X9_kindOf : ax_CW mX9_kindOf 1 := ⟨ax_mem1 3 (by decide +kernel) rfl, ax_mem1 457 (by decide +kernel) rfl, ⟨by decide +kernel, by decide +kernel, by decide +kernel⟩, by decide⟩
theorem sm_X9_kindOf : Cond.static mX9_kindOf.1 ∈ ax_ws := ax_mem1 456 (by decide +kernel) rfl
abbrev mX9_isDigit : ax_M := (yX9_isDigit, cX9_isDigit, 1, some (.boolean), 0, 0)
theorem cw_X9_isDigit : ax_CW mX9_isDigit 1 := ⟨ax_mem1 3 (by decide +kernel) rfl, ax_mem1 462 (by decide +kernel) rfl, ⟨by decide +kernel, by decide +kernel, by decide +kernel⟩, by decide⟩
theorem sm_X9_isDigit : Cond.static mX9_isDigit.1 ∈ ax_ws := ax_mem1 461 (by decide +kernel) rfl
abbrev mX9_readNumber : ax_M := (yX9_readNumber, cX9_readNumber, 1, none, 0, 0)
theorem cw_X9_readNumber : ax_CW mX9_readNumber 0 := ⟨ax_mem1 3 (by decide +kernel) rfl, ax_mem1 466 (by decide +kernel) rfl, ⟨by decide +kernel, by decide +kernel, by decide +kernel⟩, by decide⟩
theorem im_X9_readNumber : Cond.instanceMethod mX9_readNumber.1 ∈ ax_ws := ax_mem1 465 (by decide +kernel) rfl
theorem sl_X9_readNumber : Cond.selects mX9_readNumber.1.cls mX9_readNumber.1 mX9_readNumber.1 ∈ ax_ws := ax_memS (n := 7) 2 (by decide +kernel) rfl
abbrev mX9_isSign : ax_M := (yX9_isSign, cX9_isSign, 1, some (.boolean), 0, 0)
theorem cw_X9_isSign : ax_CW mX9_isSign 1 := ⟨ax_mem1 3 (by decide +kernel) rfl, ax_mem1 469 (by decide +kernel) rfl, ⟨by decide +kernel, by decide +kernel, by decide +kernel⟩, by decide⟩
theorem sm_X9_isSign : Cond.static mX9_isSign.1 ∈ ax_ws := ax_mem1 468 (by decide +kernel) rfl
abbrev mX6_openGrade : ax_M := (yX6_openGrade, cX6_openGrade, 3, some (.object "ExamTour$Grade"), 0, 0)
theorem cw_X6_openGrade : ax_CW mX6_openGrade 0 := ⟨ax_mem1 2 (by decide +kernel) rfl, ax_mem1 473 (by decide +kernel) rfl, ⟨by decide +kernel, by decide +kernel, by decide +kernel⟩, by decide⟩
theorem im_X6_openGrade : Cond.instanceMethod mX6_openGrade.1 ∈ ax_ws := ax_mem1 472 (by decide +kernel) rfl
theorem sl_X6_openGrade : Cond.selects mX6_openGrade.1.cls mX6_openGrade.1 mX6_openGrade.1 ∈ ax_ws := ax_memS (n := 6) 3 (by decide +kernel) rfl
abbrev mX6_take : ax_M := (yX6_take, cX6_take, 2, none, 0, 0)
theorem cw_X6_take : ax_CW mX6_take 1 := ⟨ax_mem1 2 (by decide +kernel) rfl, ax_mem1 477 (by decide +kernel) rfl, ⟨by decide +kernel, by decide +kernel, by decide +kernel⟩, by decide⟩
theorem im_X6_take : Cond.instanceMethod mX6_take.1 ∈ ax_ws := ax_mem1 476 (by decide +kernel) rfl
theorem sl_X6_take : Cond.selects mX6_take.1.cls mX6_take.1 mX6_take.1 ∈ ax_ws := ax_memS (n := 6) 4 (by decide +kernel) rfl
abbrev mX6_refuse : ax_M := (yX6_refuse, cX6_refuse, 1, none, 0, 0)
theorem cw_X6_refuse : ax_CW mX6_refuse 0 := ⟨ax_mem1 2 (by decide +kernel) rfl, ax_mem1 482 (by decide +kernel) rfl, ⟨by decide +kernel, by decide +kernel, by decide +kernel⟩, by decide⟩
theorem im_X6_refuse : Cond.instanceMethod mX6_refuse.1 ∈ ax_ws := ax_mem1 481 (by decide +kernel) rfl
theorem sl_X6_refuse : Cond.selects mX6_refuse.1.cls mX6_refuse.1 mX6_refuse.1 ∈ ax_ws := ax_memS (n := 6) 5 (by decide +kernel) rfl
abbrev mX6_fail : ax_M := (yX6_fail, cX6_fail, 3, none, 0, 0)
theorem cw_X6_fail : ax_CW mX6_fail 2 := ⟨ax_mem1 2 (by decide +kernel) rfl, ax_mem1 486 (by decide +kernel) rfl, ⟨by decide +kernel, by decide +kernel, by decide +kernel⟩, by decide⟩
theorem im_X6_fail : Cond.instanceMethod mX6_fail.1 ∈ ax_ws := ax_mem1 485 (by decide +kernel) rfl
theorem sl_X6_fail : Cond.selects mX6_fail.1.cls mX6_fail.1 mX6_fail.1 ∈ ax_ws := ax_memS (n := 6) 6 (by decide +kernel) rfl
abbrev mX6_takeNumber : ax_M := (yX6_takeNumber, cX6_takeNumber, 4, some (.int), 0, 0)
theorem cw_X6_takeNumber : ax_CW mX6_takeNumber 2 := ⟨ax_mem1 2 (by decide +kernel) rfl, ax_mem1 490 (by decide +kernel) rfl, ⟨by decide +kernel, by decide +kernel, by decide +kernel⟩, by decide⟩
theorem im_X6_takeNumber : Cond.instanceMethod mX6_takeNumber.1 ∈ ax_ws := ax_mem1 489 (by decide +kernel) rfl
theorem sl_X6_takeNumber : Cond.selects mX6_takeNumber.1.cls mX6_takeNumber.1 mX6_takeNumber.1 ∈ ax_ws := ax_memS (n := 6) 7 (by decide +kernel) rfl
abbrev mX8_find : ax_M := (yX8_find, cX8_find, 3, some (.object "ExamTour$Grade"), 0, 0)
theorem cw_X8_find : ax_CW mX8_find 1 := ⟨ax_mem1 4 (by decide +kernel) rfl, ax_mem1 494 (by decide +kernel) rfl, ⟨by decide +kernel, by decide +kernel, by decide +kernel⟩, by decide⟩
theorem im_X8_find : Cond.instanceMethod mX8_find.1 ∈ ax_ws := ax_mem1 492 (by decide +kernel) rfl
theorem sl_X8_find : Cond.selects mX8_find.1.cls mX8_find.1 mX8_find.1 ∈ ax_ws := ax_mem1 493 (by decide +kernel) rfl
abbrev mX8_open : ax_M := (yX8_open, cX8_open, 2, some (.object "ExamTour$Grade"), 0, 0)
theorem cw_X8_open : ax_CW mX8_open 1 := ⟨ax_mem1 4 (by decide +kernel) rfl, ax_mem1 498 (by decide +kernel) rfl, ⟨by decide +kernel, by decide +kernel, by decide +kernel⟩, by decide⟩
theorem im_X8_open : Cond.instanceMethod mX8_open.1 ∈ ax_ws := ax_mem1 496 (by decide +kernel) rfl
theorem sl_X8_open : Cond.selects mX8_open.1.cls mX8_open.1 mX8_open.1 ∈ ax_ws := ax_mem1 497 (by decide +kernel) rfl
abbrev mX6_readItem : ax_M := (yX6_readItem, cX6_readItem, 3, none, 0, 0)
theorem cw_X6_readItem : ax_CW mX6_readItem 1 := ⟨ax_mem1 2 (by decide +kernel) rfl, ax_mem1 502 (by decide +kernel) rfl, ⟨by decide +kernel, by decide +kernel, by decide +kernel⟩, by decide⟩
theorem im_X6_readItem : Cond.instanceMethod mX6_readItem.1 ∈ ax_ws := ax_mem1 501 (by decide +kernel) rfl
theorem sl_X6_readItem : Cond.selects mX6_readItem.1.cls mX6_readItem.1 mX6_readItem.1 ∈ ax_ws := ax_memS (n := 6) 8 (by decide +kernel) rfl
abbrev mX6_cannotStartItem : ax_M := (yX6_cannotStartItem, cX6_cannotStartItem, 2, some (.boolean), 0, 0)
theorem cw_X6_cannotStartItem : ax_CW mX6_cannotStartItem 1 := ⟨ax_mem1 2 (by decide +kernel) rfl, ax_mem1 506 (by decide +kernel) rfl, ⟨by decide +kernel, by decide +kernel, by decide +kernel⟩, by decide⟩
theorem im_X6_cannotStartItem : Cond.instanceMethod mX6_cannotStartItem.1 ∈ ax_ws := ax_mem1 505 (by decide +kernel) rfl
theorem sl_X6_cannotStartItem : Cond.selects mX6_cannotStartItem.1.cls mX6_cannotStartItem.1 mX6_cannotStartItem.1 ∈ ax_ws := ax_memS (n := 6) 9 (by decide +kernel) rfl
abbrev mX6_readList : ax_M := (yX6_readList, cX6_readList, 5, none, 0, 0)
theorem cw_X6_readList : ax_CW mX6_readList 1 := ⟨ax_mem1 2 (by decide +kernel) rfl, ax_mem1 510 (by decide +kernel) rfl, ⟨by decide +kernel, by decide +kernel, by decide +kernel⟩, by decide⟩
theorem im_X6_readList : Cond.instanceMethod mX6_readList.1 ∈ ax_ws := ax_mem1 509 (by decide +kernel) rfl
theorem sl_X6_readList : Cond.selects mX6_readList.1.cls mX6_readList.1 mX6_readList.1 ∈ ax_ws := ax_memS (n := 6) 10 (by decide +kernel) rfl
abbrev mX6_takeNewName : ax_M := (yX6_takeNewName, cX6_takeNewName, 4, some (.long), 0, 0)
theorem cw_X6_takeNewName : ax_CW mX6_takeNewName 1 := ⟨ax_mem1 2 (by decide +kernel) rfl, ax_mem1 514 (by decide +kernel) rfl, ⟨by decide +kernel, by decide +kernel, by decide +kernel⟩, by decide⟩
theorem im_X6_takeNewName : Cond.instanceMethod mX6_takeNewName.1 ∈ ax_ws := ax_mem1 513 (by decide +kernel) rfl
theorem sl_X6_takeNewName : Cond.selects mX6_takeNewName.1.cls mX6_takeNewName.1 mX6_takeNewName.1 ∈ ax_ws := ax_memS (n := 6) 11 (by decide +kernel) rfl
abbrev mX3_findList : ax_M := (yX3_findList, cX3_findList, 3, some (.int), 0, 0)
theorem cw_X3_findList : ax_CW mX3_findList 1 := ⟨ax_mem1 5 (by decide +kernel) rfl, ax_mem1 518 (by decide +kernel) rfl, ⟨by decide +kernel, by decide +kernel, by decide +kernel⟩, by decide⟩
theorem im_X3_findList : Cond.instanceMethod mX3_findList.1 ∈ ax_ws := ax_mem1 516 (by decide +kernel) rfl
theorem sl_X3_findList : Cond.selects mX3_findList.1.cls mX3_findList.1 mX3_findList.1 ∈ ax_ws := ax_mem1 517 (by decide +kernel) rfl
abbrev mX3_find : ax_M := (yX3_find, cX3_find, 5, some (.int), 0, 0)
theorem cw_X3_find : ax_CW mX3_find 3 := ⟨ax_mem1 5 (by decide +kernel) rfl, ax_mem1 521 (by decide +kernel) rfl, ⟨by decide +kernel, by decide +kernel, by decide +kernel⟩, by decide⟩
theorem sm_X3_find : Cond.static mX3_find.1 ∈ ax_ws := ax_mem1 520 (by decide +kernel) rfl
abbrev mX3_findPart : ax_M := (yX3_findPart, cX3_findPart, 3, some (.int), 0, 0)
theorem cw_X3_findPart : ax_CW mX3_findPart 1 := ⟨ax_mem1 5 (by decide +kernel) rfl, ax_mem1 525 (by decide +kernel) rfl, ⟨by decide +kernel, by decide +kernel, by decide +kernel⟩, by decide⟩
theorem im_X3_findPart : Cond.instanceMethod mX3_findPart.1 ∈ ax_ws := ax_mem1 523 (by decide +kernel) rfl
theorem sl_X3_findPart : Cond.selects mX3_findPart.1.cls mX3_findPart.1 mX3_findPart.1 ∈ ax_ws := ax_mem1 524 (by decide +kernel) rfl
abbrev mX3_addList : ax_M := (yX3_addList, cX3_addList, 3, none, 0, 0)
theorem cw_X3_addList : ax_CW mX3_addList 1 := ⟨ax_mem1 5 (by decide +kernel) rfl, ax_mem1 529 (by decide +kernel) rfl, ⟨by decide +kernel, by decide +kernel, by decide +kernel⟩, by decide⟩
theorem im_X3_addList : Cond.instanceMethod mX3_addList.1 ∈ ax_ws := ax_mem1 527 (by decide +kernel) rfl
theorem sl_X3_addList : Cond.selects mX3_addList.1.cls mX3_addList.1 mX3_addList.1 ∈ ax_ws := ax_mem1 528 (by decide +kernel) rfl
abbrev mX6_takeListed : ax_M := (yX6_takeListed, cX6_takeListed, 2, none, 0, 0)
theorem cw_X6_takeListed : ax_CW mX6_takeListed 1 := ⟨ax_mem1 2 (by decide +kernel) rfl, ax_mem1 533 (by decide +kernel) rfl, ⟨by decide +kernel, by decide +kernel, by decide +kernel⟩, by decide⟩
theorem im_X6_takeListed : Cond.instanceMethod mX6_takeListed.1 ∈ ax_ws := ax_mem1 532 (by decide +kernel) rfl
theorem sl_X6_takeListed : Cond.selects mX6_takeListed.1.cls mX6_takeListed.1 mX6_takeListed.1 ∈ ax_ws := ax_memS (n := 6) 12 (by decide +kernel) rfl
abbrev mX3_isLastListFull : ax_M := (yX3_isLastListFull, cX3_isLastListFull, 1, some (.boolean), 0, 0)
theorem cw_X3_isLastListFull : ax_CW mX3_isLastListFull 0 := ⟨ax_mem1 5 (by decide +kernel) rfl, ax_mem1 537 (by decide +kernel) rfl, ⟨by decide +kernel, by decide +kernel, by decide +kernel⟩, by decide⟩
theorem im_X3_isLastListFull : Cond.instanceMethod mX3_isLastListFull.1 ∈ ax_ws := ax_mem1 535 (by decide +kernel) rfl
theorem sl_X3_isLastListFull : Cond.selects mX3_isLastListFull.1.cls mX3_isLastListFull.1 mX3_isLastListFull.1 ∈ ax_ws := ax_mem1 536 (by decide +kernel) rfl
abbrev mX3_isListed : ax_M := (yX3_isListed, cX3_isListed, 5, some (.boolean), 0, 0)
theorem cw_X3_isListed : ax_CW mX3_isListed 2 := ⟨ax_mem1 5 (by decide +kernel) rfl, ax_mem1 541 (by decide +kernel) rfl, ⟨by decide +kernel, by decide +kernel, by decide +kernel⟩, by decide⟩
theorem im_X3_isListed : Cond.instanceMethod mX3_isListed.1 ∈ ax_ws := ax_mem1 539 (by decide +kernel) rfl
theorem sl_X3_isListed : Cond.selects mX3_isListed.1.cls mX3_isListed.1 mX3_isListed.1 ∈ ax_ws := ax_mem1 540 (by decide +kernel) rfl
abbrev mX3_addListed : ax_M := (yX3_addListed, cX3_addListed, 4, none, 0, 0)
theorem cw_X3_addListed : ax_CW mX3_addListed 1 := ⟨ax_mem1 5 (by decide +kernel) rfl, ax_mem1 545 (by decide +kernel) rfl, ⟨by decide +kernel, by decide +kernel, by decide +kernel⟩, by decide⟩
theorem im_X3_addListed : Cond.instanceMethod mX3_addListed.1 ∈ ax_ws := ax_mem1 543 (by decide +kernel) rfl
theorem sl_X3_addListed : Cond.selects mX3_addListed.1.cls mX3_addListed.1 mX3_addListed.1 ∈ ax_ws := ax_mem1 544 (by decide +kernel) rfl
abbrev mX6_readPart : ax_M := (yX6_readPart, cX6_readPart, 5, none, 0, 0)
theorem cw_X6_readPart : ax_CW mX6_readPart 1 := ⟨ax_mem1 2 (by decide +kernel) rfl, ax_mem1 549 (by decide +kernel) rfl, ⟨by decide +kernel, by decide +kernel, by decide +kernel⟩, by decide⟩
theorem im_X6_readPart : Cond.instanceMethod mX6_readPart.1 ∈ ax_ws := ax_mem1 548 (by decide +kernel) rfl
theorem sl_X6_readPart : Cond.selects mX6_readPart.1.cls mX6_readPart.1 mX6_readPart.1 ∈ ax_ws := ax_memS (n := 6) 13 (by decide +kernel) rfl
abbrev mX3_addPart : ax_M := (yX3_addPart, cX3_addPart, 4, none, 0, 0)
theorem cw_X3_addPart : ax_CW mX3_addPart 2 := ⟨ax_mem1 5 (by decide +kernel) rfl, ax_mem1 553 (by decide +kernel) rfl, ⟨by decide +kernel, by decide +kernel, by decide +kernel⟩, by decide⟩
theorem im_X3_addPart : Cond.instanceMethod mX3_addPart.1 ∈ ax_ws := ax_mem1 551 (by decide +kernel) rfl
theorem sl_X3_addPart : Cond.selects mX3_addPart.1.cls mX3_addPart.1 mX3_addPart.1 ∈ ax_ws := ax_mem1 552 (by decide +kernel) rfl
abbrev mX3_addRule : ax_M := (yX3_addRule, cX3_addRule, 3, none, 0, 0)
theorem cw_X3_addRule : ax_CW mX3_addRule 2 := ⟨ax_mem1 5 (by decide +kernel) rfl, ax_mem1 557 (by decide +kernel) rfl, ⟨by decide +kernel, by decide +kernel, by decide +kernel⟩, by decide⟩
theorem im_X3_addRule : Cond.instanceMethod mX3_addRule.1 ∈ ax_ws := ax_mem1 555 (by decide +kernel) rfl
theorem sl_X3_addRule : Cond.selects mX3_addRule.1.cls mX3_addRule.1 mX3_addRule.1 ∈ ax_ws := ax_mem1 556 (by decide +kernel) rfl
abbrev mX6_readE : ax_M := (yX6_readE, cX6_readE, 4, none, 0, 0)
theorem cw_X6_readE : ax_CW mX6_readE 2 := ⟨ax_mem1 2 (by decide +kernel) rfl, ax_mem1 561 (by decide +kernel) rfl, ⟨by decide +kernel, by decide +kernel, by decide +kernel⟩, by decide⟩
theorem im_X6_readE : Cond.instanceMethod mX6_readE.1 ∈ ax_ws := ax_mem1 560 (by decide +kernel) rfl
theorem sl_X6_readE : Cond.selects mX6_readE.1.cls mX6_readE.1 mX6_readE.1 ∈ ax_ws := ax_memS (n := 6) 14 (by decide +kernel) rfl
abbrev mX6_readBoth : ax_M := (yX6_readBoth, cX6_readBoth, 4, none, 0, 0)
theorem cw_X6_readBoth : ax_CW mX6_readBoth 2 := ⟨ax_mem1 2 (by decide +kernel) rfl, ax_mem1 565 (by decide +kernel) rfl, ⟨by decide +kernel, by decide +kernel, by decide +kernel⟩, by decide⟩
theorem im_X6_readBoth : Cond.instanceMethod mX6_readBoth.1 ∈ ax_ws := ax_mem1 564 (by decide +kernel) rfl
theorem sl_X6_readBoth : Cond.selects mX6_readBoth.1.cls mX6_readBoth.1 mX6_readBoth.1 ∈ ax_ws := ax_memS (n := 6) 15 (by decide +kernel) rfl
abbrev mX6_readOne : ax_M := (yX6_readOne, cX6_readOne, 3, none, 0, 0)
theorem cw_X6_readOne : ax_CW mX6_readOne 2 := ⟨ax_mem1 2 (by decide +kernel) rfl, ax_mem1 569 (by decide +kernel) rfl, ⟨by decide +kernel, by decide +kernel, by decide +kernel⟩, by decide⟩
theorem im_X6_readOne : Cond.instanceMethod mX6_readOne.1 ∈ ax_ws := ax_mem1 568 (by decide +kernel) rfl
theorem sl_X6_readOne : Cond.selects mX6_readOne.1.cls mX6_readOne.1 mX6_readOne.1 ∈ ax_ws := ax_memS (n := 6) 16 (by decide +kernel) rfl
abbrev mX8_addCell : ax_M := (yX8_addCell, cX8_addCell, 3, none, 0, 0)
theorem cw_X8_addCell : ax_CW mX8_addCell 2 := ⟨ax_mem1 4 (by decide +kernel) rfl, ax_mem1 573 (by decide +kernel) rfl, ⟨by decide +kernel, by decide +kernel, by decide +kernel⟩, by decide⟩
theorem im_X8_addCell : Cond.instanceMethod mX8_addCell.1 ∈ ax_ws := ax_mem1 571 (by decide +kernel) rfl
theorem sl_X8_addCell : Cond.selects mX8_addCell.1.cls mX8_addCell.1 mX8_addCell.1 ∈ ax_ws := ax_mem1 572 (by decide +kernel) rfl
abbrev mX6_readCompared : ax_M := (yX6_readCompared, cX6_readCompared, 4, none, 0, 0)
theorem cw_X6_readCompared : ax_CW mX6_readCompared 2 := ⟨ax_mem1 2 (by decide +kernel) rfl, ax_mem1 577 (by decide +kernel) rfl, ⟨by decide +kernel, by decide +kernel, by decide +kernel⟩, by decide⟩
theorem im_X6_readCompared : Cond.instanceMethod mX6_readCompared.1 ∈ ax_ws := ax_mem1 576 (by decide +kernel) rfl
theorem sl_X6_readCompared : Cond.selects mX6_readCompared.1.cls mX6_readCompared.1 mX6_readCompared.1 ∈ ax_ws := ax_memS (n := 6) 17 (by decide +kernel) rfl
abbrev mX6_readSum : ax_M := (yX6_readSum, cX6_readSum, 5, none, 0, 0)
theorem cw_X6_readSum : ax_CW mX6_readSum 2 := ⟨ax_mem1 2 (by decide +kernel) rfl, ax_mem1 581 (by decide +kernel) rfl, ⟨by decide +kernel, by decide +kernel, by decide +kernel⟩, by decide⟩
theorem im_X6_readSum : Cond.instanceMethod mX6_readSum.1 ∈ ax_ws := ax_mem1 580 (by decide +kernel) rfl
theorem sl_X6_readSum : Cond.selects mX6_readSum.1.cls mX6_readSum.1 mX6_readSum.1 ∈ ax_ws := ax_memS (n := 6) 18 (by decide +kernel) rfl
abbrev mX6_readLeaf : ax_M := (yX6_readLeaf, cX6_readLeaf, 3, none, 0, 0)
theorem cw_X6_readLeaf : ax_CW mX6_readLeaf 2 := ⟨ax_mem1 2 (by decide +kernel) rfl, ax_mem1 585 (by decide +kernel) rfl, ⟨by decide +kernel, by decide +kernel, by decide +kernel⟩, by decide⟩
theorem im_X6_readLeaf : Cond.instanceMethod mX6_readLeaf.1 ∈ ax_ws := ax_mem1 584 (by decide +kernel) rfl
theorem sl_X6_readLeaf : Cond.selects mX6_readLeaf.1.cls mX6_readLeaf.1 mX6_readLeaf.1 ∈ ax_ws := ax_memS (n := 6) 19 (by decide +kernel) rfl
abbrev mX6_isLeaf : ax_M := (yX6_isLeaf, cX6_isLeaf, 1, some (.boolean), 0, 0)
theorem cw_X6_isLeaf : ax_CW mX6_isLeaf 1 := ⟨ax_mem1 2 (by decide +kernel) rfl, ax_mem1 588 (by decide +kernel) rfl, ⟨by decide +kernel, by decide +kernel, by decide +kernel⟩, by decide⟩
theorem sm_X6_isLeaf : Cond.static mX6_isLeaf.1 ∈ ax_ws := ax_mem1 587 (by decide +kernel) rfl
abbrev mX6_addMeaning : ax_M := (yX6_addMeaning, cX6_addMeaning, 3, none, 0, 0)
theorem cw_X6_addMeaning : ax_CW mX6_addMeaning 1 := ⟨ax_mem1 2 (by decide +kernel) rfl, ax_mem1 592 (by decide +kernel) rfl, ⟨by decide +kernel, by decide +kernel, by decide +kernel⟩, by decide⟩
theorem im_X6_addMeaning : Cond.instanceMethod mX6_addMeaning.1 ∈ ax_ws := ax_mem1 591 (by decide +kernel) rfl
theorem sl_X6_addMeaning : Cond.selects mX6_addMeaning.1.cls mX6_addMeaning.1 mX6_addMeaning.1 ∈ ax_ws := ax_memS (n := 6) 20 (by decide +kernel) rfl
abbrev mX6_addNamed : ax_M := (yX6_addNamed, cX6_addNamed, 3, none, 0, 0)
theorem cw_X6_addNamed : ax_CW mX6_addNamed 2 := ⟨ax_mem1 2 (by decide +kernel) rfl, ax_mem1 596 (by decide +kernel) rfl, ⟨by decide +kernel, by decide +kernel, by decide +kernel⟩, by decide⟩
theorem im_X6_addNamed : Cond.instanceMethod mX6_addNamed.1 ∈ ax_ws := ax_mem1 595 (by decide +kernel) rfl
theorem sl_X6_addNamed : Cond.selects mX6_addNamed.1.cls mX6_addNamed.1 mX6_addNamed.1 ∈ ax_ws := ax_memS (n := 6) 21 (by decide +kernel) rfl
abbrev mX6_exchange : ax_M := (yX6_exchange, cX6_exchange, 3, some (.object "ExamTour$Syllabus"), 59, 1698)
theorem cw_X6_exchange : ax_CW mX6_exchange 1 := ⟨ax_mem1 2 (by decide +kernel) rfl, ax_mem1 600 (by decide +kernel) rfl, ⟨by decide +kernel, by decide +kernel, by decide +kernel⟩, by decide⟩
theorem im_X6_exchange : Cond.instanceMethod mX6_exchange.1 ∈ ax_ws := ax_mem1 598 (by decide +kernel) rfl
theorem sl_X6_exchange : Cond.selects mX6_exchange.1.cls mX6_exchange.1 mX6_exchange.1 ∈ ax_ws := ax_mem1 599 (by decide +kernel) rfl
abbrev mX10_gradesOf : ax_M := (yX10_gradesOf, cX10_gradesOf, 3, some (.int), 0, 0)
theorem cw_X10_gradesOf : ax_CW mX10_gradesOf 1 := ⟨ax_mem1 1 (by decide +kernel) rfl, ax_mem1 604 (by decide +kernel) rfl, ⟨by decide +kernel, by decide +kernel, by decide +kernel⟩, by decide⟩
theorem im_X10_gradesOf : Cond.instanceMethod mX10_gradesOf.1 ∈ ax_ws := ax_mem1 603 (by decide +kernel) rfl
theorem sl_X10_gradesOf : Cond.selects mX10_gradesOf.1.cls mX10_gradesOf.1 mX10_gradesOf.1 ∈ ax_ws := ax_memS (n := 8) 22 (by decide +kernel) rfl
abbrev mX10_fault : ax_M := (yX10_fault, cX10_fault, 2, some (.int), 0, 0)
theorem cw_X10_fault : ax_CW mX10_fault 1 := ⟨ax_mem1 1 (by decide +kernel) rfl, ax_mem1 608 (by decide +kernel) rfl, ⟨by decide +kernel, by decide +kernel, by decide +kernel⟩, by decide⟩
theorem im_X10_fault : Cond.instanceMethod mX10_fault.1 ∈ ax_ws := ax_mem1 606 (by decide +kernel) rfl
theorem sl_X10_fault : Cond.selects mX10_fault.1.cls mX10_fault.1 mX10_fault.1 ∈ ax_ws := ax_mem1 607 (by decide +kernel) rfl
abbrev mX10_grade : ax_M := (yX10_grade, cX10_grade, 5, some (.int), 0, 0)
theorem cw_X10_grade : ax_CW mX10_grade 3 := ⟨ax_mem1 1 (by decide +kernel) rfl, ax_mem1 612 (by decide +kernel) rfl, ⟨by decide +kernel, by decide +kernel, by decide +kernel⟩, by decide⟩
theorem im_X10_grade : Cond.instanceMethod mX10_grade.1 ∈ ax_ws := ax_mem1 610 (by decide +kernel) rfl
theorem sl_X10_grade : Cond.selects mX10_grade.1.cls mX10_grade.1 mX10_grade.1 ∈ ax_ws := ax_mem1 611 (by decide +kernel) rfl
abbrev mX10_findGrade : ax_M := (yX10_findGrade, cX10_findGrade, 4, some (.object "ExamTour$Grade"), 0, 0)
theorem cw_X10_findGrade : ax_CW mX10_findGrade 2 := ⟨ax_mem1 1 (by decide +kernel) rfl, ax_mem1 616 (by decide +kernel) rfl, ⟨by decide +kernel, by decide +kernel, by decide +kernel⟩, by decide⟩
theorem im_X10_findGrade : Cond.instanceMethod mX10_findGrade.1 ∈ ax_ws := ax_mem1 615 (by decide +kernel) rfl
theorem sl_X10_findGrade : Cond.selects mX10_findGrade.1.cls mX10_findGrade.1 mX10_findGrade.1 ∈ ax_ws := ax_memS (n := 8) 23 (by decide +kernel) rfl
abbrev mX3_minutesOrUsual : ax_M := (yX3_minutesOrUsual, cX3_minutesOrUsual, 1, some (.int), 0, 0)
theorem cw_X3_minutesOrUsual : ax_CW mX3_minutesOrUsual 0 := ⟨ax_mem1 5 (by decide +kernel) rfl, ax_mem1 621 (by decide +kernel) rfl, ⟨by decide +kernel, by decide +kernel, by decide +kernel⟩, by decide⟩
theorem im_X3_minutesOrUsual : Cond.instanceMethod mX3_minutesOrUsual.1 ∈ ax_ws := ax_mem1 619 (by decide +kernel) rfl
theorem sl_X3_minutesOrUsual : Cond.selects mX3_minutesOrUsual.1.cls mX3_minutesOrUsual.1 mX3_minutesOrUsual.1 ∈ ax_ws := ax_mem1 620 (by decide +kernel) rfl
abbrev mX10_entry : ax_M := (yX10_entry, cX10_entry, 8, some (.int), 0, 0)
theorem cw_X10_entry : ax_CW mX10_entry 6 := ⟨ax_mem1 1 (by decide +kernel) rfl, ax_mem1 625 (by decide +kernel) rfl, ⟨by decide +kernel, by decide +kernel, by decide +kernel⟩, by decide⟩
theorem im_X10_entry : Cond.instanceMethod mX10_entry.1 ∈ ax_ws := ax_mem1 623 (by decide +kernel) rfl
theorem sl_X10_entry : Cond.selects mX10_entry.1.cls mX10_entry.1 mX10_entry.1 ∈ ax_ws := ax_mem1 624 (by decide +kernel) rfl
abbrev mX10_isWithin : ax_M := (yX10_isWithin, cX10_isWithin, 3, some (.boolean), 0, 0)
theorem cw_X10_isWithin : ax_CW mX10_isWithin 3 := ⟨ax_mem1 1 (by decide +kernel) rfl, ax_mem1 628 (by decide +kernel) rfl, ⟨by decide +kernel, by decide +kernel, by decide +kernel⟩, by decide⟩
theorem sm_X10_isWithin : Cond.static mX10_isWithin.1 ∈ ax_ws := ax_mem1 627 (by decide +kernel) rfl
abbrev mX1_hasExaminer : ax_M := (yX1_hasExaminer, cX1_hasExaminer, 2, some (.boolean), 0, 0)
theorem cw_X1_hasExaminer : ax_CW mX1_hasExaminer 1 := ⟨ax_mem1 8 (by decide +kernel) rfl, ax_mem1 632 (by decide +kernel) rfl, ⟨by decide +kernel, by decide +kernel, by decide +kernel⟩, by decide⟩
theorem im_X1_hasExaminer : Cond.instanceMethod mX1_hasExaminer.1 ∈ ax_ws := ax_mem1 630 (by decide +kernel) rfl
theorem sl_X1_hasExaminer : Cond.selects mX1_hasExaminer.1.cls mX1_hasExaminer.1 mX1_hasExaminer.1 ∈ ax_ws := ax_mem1 631 (by decide +kernel) rfl
abbrev mX2_add : ax_M := (yX2_add, cX2_add, 7, some (.int), 0, 0)
theorem cw_X2_add : ax_CW mX2_add 6 := ⟨ax_mem1 7 (by decide +kernel) rfl, ax_mem1 636 (by decide +kernel) rfl, ⟨by decide +kernel, by decide +kernel, by decide +kernel⟩, by decide⟩
theorem im_X2_add : Cond.instanceMethod mX2_add.1 ∈ ax_ws := ax_mem1 634 (by decide +kernel) rfl
theorem sl_X2_add : Cond.selects mX2_add.1.cls mX2_add.1 mX2_add.1 ∈ ax_ws := ax_mem1 635 (by decide +kernel) rfl
abbrev mX10_piece : ax_M := (yX10_piece, cX10_piece, 4, some (.int), 0, 0)
theorem cw_X10_piece : ax_CW mX10_piece 2 := ⟨ax_mem1 1 (by decide +kernel) rfl, ax_mem1 640 (by decide +kernel) rfl, ⟨by decide +kernel, by decide +kernel, by decide +kernel⟩, by decide⟩
theorem im_X10_piece : Cond.instanceMethod mX10_piece.1 ∈ ax_ws := ax_mem1 638 (by decide +kernel) rfl
theorem sl_X10_piece : Cond.selects mX10_piece.1.cls mX10_piece.1 mX10_piece.1 ∈ ax_ws := ax_mem1 639 (by decide +kernel) rfl
abbrev mX2_has : ax_M := (yX2_has, cX2_has, 2, some (.boolean), 0, 0)
theorem cw_X2_has : ax_CW mX2_has 1 := ⟨ax_mem1 7 (by decide +kernel) rfl, ax_mem1 644 (by decide +kernel) rfl, ⟨by decide +kernel, by decide +kernel, by decide +kernel⟩, by decide⟩
theorem im_X2_has : Cond.instanceMethod mX2_has.1 ∈ ax_ws := ax_mem1 642 (by decide +kernel) rfl
theorem sl_X2_has : Cond.selects mX2_has.1.cls mX2_has.1 mX2_has.1 ∈ ax_ws := ax_mem1 643 (by decide +kernel) rfl
abbrev mX9_isWord : ax_M := (yX9_isWord, cX9_isWord, 5, some (.boolean), 0, 0)
theorem cw_X9_isWord : ax_CW mX9_isWord 1 := ⟨ax_mem1 3 (by decide +kernel) rfl, ax_mem1 647 (by decide +kernel) rfl, ⟨by decide +kernel, by decide +kernel, by decide +kernel⟩, by decide⟩
theorem sm_X9_isWord : Cond.static mX9_isWord.1 ∈ ax_ws := ax_mem1 646 (by decide +kernel) rfl
abbrev mX2_addPiece : ax_M := (yX2_addPiece, cX2_addPiece, 6, some (.int), 0, 0)
theorem cw_X2_addPiece : ax_CW mX2_addPiece 2 := ⟨ax_mem1 7 (by decide +kernel) rfl, ax_mem1 651 (by decide +kernel) rfl, ⟨by decide +kernel, by decide +kernel, by decide +kernel⟩, by decide⟩
theorem im_X2_addPiece : Cond.instanceMethod mX2_addPiece.1 ∈ ax_ws := ax_mem1 649 (by decide +kernel) rfl
theorem sl_X2_addPiece : Cond.selects mX2_addPiece.1.cls mX2_addPiece.1 mX2_addPiece.1 ∈ ax_ws := ax_mem1 650 (by decide +kernel) rfl
abbrev mX10_judge : ax_M := (yX10_judge, cX10_judge, 2, some (.int), 0, 0)
theorem cw_X10_judge : ax_CW mX10_judge 1 := ⟨ax_mem1 1 (by decide +kernel) rfl, ax_mem1 655 (by decide +kernel) rfl, ⟨by decide +kernel, by decide +kernel, by decide +kernel⟩, by decide⟩
theorem im_X10_judge : Cond.instanceMethod mX10_judge.1 ∈ ax_ws := ax_mem1 653 (by decide +kernel) rfl
theorem sl_X10_judge : Cond.selects mX10_judge.1.cls mX10_judge.1 mX10_judge.1 ∈ ax_ws := ax_mem1 654 (by decide +kernel) rfl
abbrev mX10_firstUnmet : ax_M := (yX10_firstUnmet, cX10_firstUnmet, 5, some (.int), 0, 0)
theorem cw_X10_firstUnmet : ax_CW mX10_firstUnmet 1 := ⟨ax_mem1 1 (by decide +kernel) rfl, ax_mem1 659 (by decide +kernel) rfl, ⟨by decide +kernel, by decide +kernel, by decide +kernel⟩, by decide⟩
theorem im_X10_firstUnmet : Cond.instanceMethod mX10_firstUnmet.1 ∈ ax_ws := ax_mem1 658 (by decide +kernel) rfl
theorem sl_X10_firstUnmet : Cond.selects mX10_firstUnmet.1.cls mX10_firstUnmet.1 mX10_firstUnmet.1 ∈ ax_ws := ax_memS (n := 8) 24 (by decide +kernel) rfl
abbrev mX10_gradeOf : ax_M := (yX10_gradeOf, cX10_gradeOf, 2, some (.object "ExamTour$Grade"), 0, 0)
theorem cw_X10_gradeOf : ax_CW mX10_gradeOf 1 := ⟨ax_mem1 1 (by decide +kernel) rfl, ax_mem1 663 (by decide +kernel) rfl, ⟨by decide +kernel, by decide +kernel, by decide +kernel⟩, by decide⟩
theorem im_X10_gradeOf : Cond.instanceMethod mX10_gradeOf.1 ∈ ax_ws := ax_mem1 662 (by decide +kernel) rfl
theorem sl_X10_gradeOf : Cond.selects mX10_gradeOf.1.cls mX10_gradeOf.1 mX10_gradeOf.1 ∈ ax_ws := ax_memS (n := 8) 25 (by decide +kernel) rfl
abbrev mX4_work : ax_M := (yX4_work, cX4_work, 10, some (.int), 0, 0)
theorem cw_X4_work : ax_CW mX4_work 5 := ⟨ax_mem1 6 (by decide +kernel) rfl, ax_mem1 667 (by decide +kernel) rfl, ⟨by decide +kernel, by decide +kernel, by decide +kernel⟩, by decide⟩
theorem im_X4_work : Cond.instanceMethod mX4_work.1 ∈ ax_ws := ax_mem1 665 (by decide +kernel) rfl
theorem sl_X4_work : Cond.selects mX4_work.1.cls mX4_work.1 mX4_work.1 ∈ ax_ws := ax_mem1 666 (by decide +kernel) rfl
abbrev mJ9_max_7cf53 : ax_M := (yJ9_max_7cf53, cJ9_max_7cf53, 2, some (.int), 0, 0)
theorem cw_J9_max_7cf53 : ax_CW mJ9_max_7cf53 2 := ⟨ax_mem1 13 (by decide +kernel) rfl, ax_mem1 670 (by decide +kernel) rfl, ⟨by decide +kernel, by decide +kernel, by decide +kernel⟩, by decide⟩
theorem sm_J9_max_7cf53 : Cond.static mJ9_max_7cf53.1 ∈ ax_ws := ax_mem1 669 (by decide +kernel) rfl
abbrev mX4_markLeaf : ax_M := (yX4_markLeaf, cX4_markLeaf, 4, some (.int), 0, 0)
theorem cw_X4_markLeaf : ax_CW mX4_markLeaf 3 := ⟨ax_mem1 6 (by decide +kernel) rfl, ax_mem1 675 (by decide +kernel) rfl, ⟨by decide +kernel, by decide +kernel, by decide +kernel⟩, by decide⟩
theorem im_X4_markLeaf : Cond.instanceMethod mX4_markLeaf.1 ∈ ax_ws := ax_mem1 674 (by decide +kernel) rfl
theorem sl_X4_markLeaf : Cond.selects mX4_markLeaf.1.cls mX4_markLeaf.1 mX4_markLeaf.1 ∈ ax_ws := ax_memS (n := 3) 26 (by decide +kernel) rfl
abbrev mX4_total : ax_M := (yX4_total, cX4_total, 4, some (.int), 0, 0)
theorem cw_X4_total : ax_CW mX4_total 1 := ⟨ax_mem1 6 (by decide +kernel) rfl, ax_mem1 679 (by decide +kernel) rfl, ⟨by decide +kernel, by decide +kernel, by decide +kernel⟩, by decide⟩
theorem im_X4_total : Cond.instanceMethod mX4_total.1 ∈ ax_ws := ax_mem1 678 (by decide +kernel) rfl
theorem sl_X4_total : Cond.selects mX4_total.1.cls mX4_total.1 mX4_total.1 ∈ ax_ws := ax_memS (n := 3) 27 (by decide +kernel) rfl
abbrev mX4_least : ax_M := (yX4_least, cX4_least, 4, some (.int), 0, 0)
theorem cw_X4_least : ax_CW mX4_least 1 := ⟨ax_mem1 6 (by decide +kernel) rfl, ax_mem1 683 (by decide +kernel) rfl, ⟨by decide +kernel, by decide +kernel, by decide +kernel⟩, by decide⟩
theorem im_X4_least : Cond.instanceMethod mX4_least.1 ∈ ax_ws := ax_mem1 682 (by decide +kernel) rfl
theorem sl_X4_least : Cond.selects mX4_least.1.cls mX4_least.1 mX4_least.1 ∈ ax_ws := ax_memS (n := 3) 28 (by decide +kernel) rfl
abbrev mJ9_min_7cf53 : ax_M := (yJ9_min_7cf53, cJ9_min_7cf53, 2, some (.int), 0, 0)
theorem cw_J9_min_7cf53 : ax_CW mJ9_min_7cf53 2 := ⟨ax_mem1 13 (by decide +kernel) rfl, ax_mem1 686 (by decide +kernel) rfl, ⟨by decide +kernel, by decide +kernel, by decide +kernel⟩, by decide⟩
theorem sm_J9_min_7cf53 : Cond.static mJ9_min_7cf53.1 ∈ ax_ws := ax_mem1 685 (by decide +kernel) rfl
abbrev mX4_push : ax_M := (yX4_push, cX4_push, 2, none, 0, 0)
theorem cw_X4_push : ax_CW mX4_push 1 := ⟨ax_mem1 6 (by decide +kernel) rfl, ax_mem1 690 (by decide +kernel) rfl, ⟨by decide +kernel, by decide +kernel, by decide +kernel⟩, by decide⟩
theorem im_X4_push : Cond.instanceMethod mX4_push.1 ∈ ax_ws := ax_mem1 689 (by decide +kernel) rfl
theorem sl_X4_push : Cond.selects mX4_push.1.cls mX4_push.1 mX4_push.1 ∈ ax_ws := ax_memS (n := 3) 29 (by decide +kernel) rfl
abbrev mX4_pieceLeaf : ax_M := (yX4_pieceLeaf, cX4_pieceLeaf, 6, some (.int), 0, 0)
theorem cw_X4_pieceLeaf : ax_CW mX4_pieceLeaf 5 := ⟨ax_mem1 6 (by decide +kernel) rfl, ax_mem1 694 (by decide +kernel) rfl, ⟨by decide +kernel, by decide +kernel, by decide +kernel⟩, by decide⟩
theorem im_X4_pieceLeaf : Cond.instanceMethod mX4_pieceLeaf.1 ∈ ax_ws := ax_mem1 693 (by decide +kernel) rfl
theorem sl_X4_pieceLeaf : Cond.selects mX4_pieceLeaf.1.cls mX4_pieceLeaf.1 mX4_pieceLeaf.1 ∈ ax_ws := ax_memS (n := 3) 30 (by decide +kernel) rfl
abbrev mX2_countListed : ax_M := (yX2_countListed, cX2_countListed, 6, some (.int), 0, 0)
theorem cw_X2_countListed : ax_CW mX2_countListed 3 := ⟨ax_mem1 7 (by decide +kernel) rfl, ax_mem1 698 (by decide +kernel) rfl, ⟨by decide +kernel, by decide +kernel, by decide +kernel⟩, by decide⟩
theorem im_X2_countListed : Cond.instanceMethod mX2_countListed.1 ∈ ax_ws := ax_mem1 696 (by decide +kernel) rfl
theorem sl_X2_countListed : Cond.selects mX2_countListed.1.cls mX2_countListed.1 mX2_countListed.1 ∈ ax_ws := ax_mem1 697 (by decide +kernel) rfl
abbrev mX2_countOwn : ax_M := (yX2_countOwn, cX2_countOwn, 5, some (.int), 0, 0)
theorem cw_X2_countOwn : ax_CW mX2_countOwn 2 := ⟨ax_mem1 7 (by decide +kernel) rfl, ax_mem1 703 (by decide +kernel) rfl, ⟨by decide +kernel, by decide +kernel, by decide +kernel⟩, by decide⟩
theorem im_X2_countOwn : Cond.instanceMethod mX2_countOwn.1 ∈ ax_ws := ax_mem1 701 (by decide +kernel) rfl
theorem sl_X2_countOwn : Cond.selects mX2_countOwn.1.cls mX2_countOwn.1 mX2_countOwn.1 ∈ ax_ws := ax_mem1 702 (by decide +kernel) rfl
abbrev mX3_isListedAnywhere : ax_M := (yX3_isListedAnywhere, cX3_isListedAnywhere, 5, some (.boolean), 0, 0)
theorem cw_X3_isListedAnywhere : ax_CW mX3_isListedAnywhere 1 := ⟨ax_mem1 5 (by decide +kernel) rfl, ax_mem1 707 (by decide +kernel) rfl, ⟨by decide +kernel, by decide +kernel, by decide +kernel⟩, by decide⟩
theorem im_X3_isListedAnywhere : Cond.instanceMethod mX3_isListedAnywhere.1 ∈ ax_ws := ax_mem1 705 (by decide +kernel) rfl
theorem sl_X3_isListedAnywhere : Cond.selects mX3_isListedAnywhere.1.cls mX3_isListedAnywhere.1 mX3_isListedAnywhere.1 ∈ ax_ws := ax_mem1 706 (by decide +kernel) rfl
abbrev mX4_pop : ax_M := (yX4_pop, cX4_pop, 1, some (.int), 0, 0)
theorem cw_X4_pop : ax_CW mX4_pop 0 := ⟨ax_mem1 6 (by decide +kernel) rfl, ax_mem1 711 (by decide +kernel) rfl, ⟨by decide +kernel, by decide +kernel, by decide +kernel⟩, by decide⟩
theorem im_X4_pop : Cond.instanceMethod mX4_pop.1 ∈ ax_ws := ax_mem1 710 (by decide +kernel) rfl
theorem sl_X4_pop : Cond.selects mX4_pop.1.cls mX4_pop.1 mX4_pop.1 ∈ ax_ws := ax_memS (n := 3) 31 (by decide +kernel) rfl
abbrev mX4_join : ax_M := (yX4_join, cX4_join, 3, some (.int), 0, 0)
theorem cw_X4_join : ax_CW mX4_join 3 := ⟨ax_mem1 6 (by decide +kernel) rfl, ax_mem1 714 (by decide +kernel) rfl, ⟨by decide +kernel, by decide +kernel, by decide +kernel⟩, by decide⟩
theorem sm_X4_join : Cond.static mX4_join.1 ∈ ax_ws := ax_mem1 713 (by decide +kernel) rfl
abbrev mX10_centre : ax_M := (yX10_centre, cX10_centre, 1, some (.int), 0, 0)
theorem cw_X10_centre : ax_CW mX10_centre 0 := ⟨ax_mem1 1 (by decide +kernel) rfl, ax_mem1 718 (by decide +kernel) rfl, ⟨by decide +kernel, by decide +kernel, by decide +kernel⟩, by decide⟩
theorem im_X10_centre : Cond.instanceMethod mX10_centre.1 ∈ ax_ws := ax_mem1 716 (by decide +kernel) rfl
theorem sl_X10_centre : Cond.selects mX10_centre.1.cls mX10_centre.1 mX10_centre.1 ∈ ax_ws := ax_mem1 717 (by decide +kernel) rfl
abbrev mX1_addCentre : ax_M := (yX1_addCentre, cX1_addCentre, 1, some (.int), 0, 0)
theorem cw_X1_addCentre : ax_CW mX1_addCentre 0 := ⟨ax_mem1 8 (by decide +kernel) rfl, ax_mem1 722 (by decide +kernel) rfl, ⟨by decide +kernel, by decide +kernel, by decide +kernel⟩, by decide⟩
theorem im_X1_addCentre : Cond.instanceMethod mX1_addCentre.1 ∈ ax_ws := ax_mem1 720 (by decide +kernel) rfl
theorem sl_X1_addCentre : Cond.selects mX1_addCentre.1.cls mX1_addCentre.1 mX1_addCentre.1 ∈ ax_ws := ax_mem1 721 (by decide +kernel) rfl
abbrev mX10_way : ax_M := (yX10_way, cX10_way, 5, some (.boolean), 0, 0)
theorem cw_X10_way : ax_CW mX10_way 3 := ⟨ax_mem1 1 (by decide +kernel) rfl, ax_mem1 726 (by decide +kernel) rfl, ⟨by decide +kernel, by decide +kernel, by decide +kernel⟩, by decide⟩
theorem im_X10_way : Cond.instanceMethod mX10_way.1 ∈ ax_ws := ax_mem1 724 (by decide +kernel) rfl
theorem sl_X10_way : Cond.selects mX10_way.1.cls mX10_way.1 mX10_way.1 ∈ ax_ws := ax_mem1 725 (by decide +kernel) rfl
abbrev mX1_hasCentre : ax_M := (yX1_hasCentre, cX1_hasCentre, 2, some (.boolean), 0, 0)
theorem cw_X1_hasCentre : ax_CW mX1_hasCentre 1 := ⟨ax_mem1 8 (by decide +kernel) rfl, ax_mem1 730 (by decide +kernel) rfl, ⟨by decide +kernel, by decide +kernel, by decide +kernel⟩, by decide⟩
theorem im_X1_hasCentre : Cond.instanceMethod mX1_hasCentre.1 ∈ ax_ws := ax_mem1 728 (by decide +kernel) rfl
theorem sl_X1_hasCentre : Cond.selects mX1_hasCentre.1.cls mX1_hasCentre.1 mX1_hasCentre.1 ∈ ax_ws := ax_mem1 729 (by decide +kernel) rfl
abbrev mX1_setWay : ax_M := (yX1_setWay, cX1_setWay, 4, none, 0, 0)
theorem cw_X1_setWay : ax_CW mX1_setWay 3 := ⟨ax_mem1 8 (by decide +kernel) rfl, ax_mem1 734 (by decide +kernel) rfl, ⟨by decide +kernel, by decide +kernel, by decide +kernel⟩, by decide⟩
theorem im_X1_setWay : Cond.instanceMethod mX1_setWay.1 ∈ ax_ws := ax_mem1 732 (by decide +kernel) rfl
theorem sl_X1_setWay : Cond.selects mX1_setWay.1.cls mX1_setWay.1 mX1_setWay.1 ∈ ax_ws := ax_mem1 733 (by decide +kernel) rfl
abbrev mX10_examiner : ax_M := (yX10_examiner, cX10_examiner, 4, some (.int), 0, 0)
theorem cw_X10_examiner : ax_CW mX10_examiner 2 := ⟨ax_mem1 1 (by decide +kernel) rfl, ax_mem1 738 (by decide +kernel) rfl, ⟨by decide +kernel, by decide +kernel, by decide +kernel⟩, by decide⟩
theorem im_X10_examiner : Cond.instanceMethod mX10_examiner.1 ∈ ax_ws := ax_mem1 736 (by decide +kernel) rfl
theorem sl_X10_examiner : Cond.selects mX10_examiner.1.cls mX10_examiner.1 mX10_examiner.1 ∈ ax_ws := ax_mem1 737 (by decide +kernel) rfl
abbrev mX1_addExaminer : ax_M := (yX1_addExaminer, cX1_addExaminer, 3, some (.int), 0, 0)
theorem cw_X1_addExaminer : ax_CW mX1_addExaminer 2 := ⟨ax_mem1 8 (by decide +kernel) rfl, ax_mem1 742 (by decide +kernel) rfl, ⟨by decide +kernel, by decide +kernel, by decide +kernel⟩, by decide⟩
theorem im_X1_addExaminer : Cond.instanceMethod mX1_addExaminer.1 ∈ ax_ws := ax_mem1 740 (by decide +kernel) rfl
theorem sl_X1_addExaminer : Cond.selects mX1_addExaminer.1.cls mX1_addExaminer.1 mX1_addExaminer.1 ∈ ax_ws := ax_mem1 741 (by decide +kernel) rfl
abbrev mX10_session : ax_M := (yX10_session, cX10_session, 4, some (.int), 0, 0)
theorem cw_X10_session : ax_CW mX10_session 2 := ⟨ax_mem1 1 (by decide +kernel) rfl, ax_mem1 746 (by decide +kernel) rfl, ⟨by decide +kernel, by decide +kernel, by decide +kernel⟩, by decide⟩
theorem im_X10_session : Cond.instanceMethod mX10_session.1 ∈ ax_ws := ax_mem1 744 (by decide +kernel) rfl
theorem sl_X10_session : Cond.selects mX10_session.1.cls mX10_session.1 mX10_session.1 ∈ ax_ws := ax_mem1 745 (by decide +kernel) rfl
abbrev mX1_addSession : ax_M := (yX1_addSession, cX1_addSession, 3, some (.int), 0, 0)
theorem cw_X1_addSession : ax_CW mX1_addSession 2 := ⟨ax_mem1 8 (by decide +kernel) rfl, ax_mem1 750 (by decide +kernel) rfl, ⟨by decide +kernel, by decide +kernel, by decide +kernel⟩, by decide⟩
theorem im_X1_addSession : Cond.instanceMethod mX1_addSession.1 ∈ ax_ws := ax_mem1 748 (by decide +kernel) rfl
theorem sl_X1_addSession : Cond.selects mX1_addSession.1.cls mX1_addSession.1 mX1_addSession.1 ∈ ax_ws := ax_mem1 749 (by decide +kernel) rfl
abbrev mX10_put : ax_M := (yX10_put, cX10_put, 3, some (.boolean), 0, 0)
theorem cw_X10_put : ax_CW mX10_put 2 := ⟨ax_mem1 1 (by decide +kernel) rfl, ax_mem1 754 (by decide +kernel) rfl, ⟨by decide +kernel, by decide +kernel, by decide +kernel⟩, by decide⟩
theorem im_X10_put : Cond.instanceMethod mX10_put.1 ∈ ax_ws := ax_mem1 752 (by decide +kernel) rfl
theorem sl_X10_put : Cond.selects mX10_put.1.cls mX10_put.1 mX10_put.1 ∈ ax_ws := ax_mem1 753 (by decide +kernel) rfl
abbrev mX1_hasSession : ax_M := (yX1_hasSession, cX1_hasSession, 2, some (.boolean), 0, 0)
theorem cw_X1_hasSession : ax_CW mX1_hasSession 1 := ⟨ax_mem1 8 (by decide +kernel) rfl, ax_mem1 758 (by decide +kernel) rfl, ⟨by decide +kernel, by decide +kernel, by decide +kernel⟩, by decide⟩
theorem im_X1_hasSession : Cond.instanceMethod mX1_hasSession.1 ∈ ax_ws := ax_mem1 756 (by decide +kernel) rfl
theorem sl_X1_hasSession : Cond.selects mX1_hasSession.1.cls mX1_hasSession.1 mX1_hasSession.1 ∈ ax_ws := ax_mem1 757 (by decide +kernel) rfl
abbrev mX10_minutesWith : ax_M := (yX10_minutesWith, cX10_minutesWith, 5, some (.int), 0, 0)
theorem cw_X10_minutesWith : ax_CW mX10_minutesWith 2 := ⟨ax_mem1 1 (by decide +kernel) rfl, ax_mem1 762 (by decide +kernel) rfl, ⟨by decide +kernel, by decide +kernel, by decide +kernel⟩, by decide⟩
theorem im_X10_minutesWith : Cond.instanceMethod mX10_minutesWith.1 ∈ ax_ws := ax_mem1 761 (by decide +kernel) rfl
theorem sl_X10_minutesWith : Cond.selects mX10_minutesWith.1.cls mX10_minutesWith.1 mX10_minutesWith.1 ∈ ax_ws := ax_memS (n := 8) 32 (by decide +kernel) rfl
abbrev mX10_minutesOf : ax_M := (yX10_minutesOf, cX10_minutesOf, 3, some (.int), 0, 0)
theorem cw_X10_minutesOf : ax_CW mX10_minutesOf 1 := ⟨ax_mem1 1 (by decide +kernel) rfl, ax_mem1 766 (by decide +kernel) rfl, ⟨by decide +kernel, by decide +kernel, by decide +kernel⟩, by decide⟩
theorem im_X10_minutesOf : Cond.instanceMethod mX10_minutesOf.1 ∈ ax_ws := ax_mem1 765 (by decide +kernel) rfl
theorem sl_X10_minutesOf : Cond.selects mX10_minutesOf.1.cls mX10_minutesOf.1 mX10_minutesOf.1 ∈ ax_ws := ax_memS (n := 8) 33 (by decide +kernel) rfl
abbrev mX10_of : ax_M := (yX10_of, cX10_of, 3, some (.int), 0, 0)
theorem cw_X10_of : ax_CW mX10_of 2 := ⟨ax_mem1 1 (by decide +kernel) rfl, ax_mem1 770 (by decide +kernel) rfl, ⟨by decide +kernel, by decide +kernel, by decide +kernel⟩, by decide⟩
theorem im_X10_of : Cond.instanceMethod mX10_of.1 ∈ ax_ws := ax_mem1 768 (by decide +kernel) rfl
theorem sl_X10_of : Cond.selects mX10_of.1.cls mX10_of.1 mX10_of.1 ∈ ax_ws := ax_mem1 769 (by decide +kernel) rfl
abbrev mX2_countIn : ax_M := (yX2_countIn, cX2_countIn, 4, some (.int), 0, 0)
theorem cw_X2_countIn : ax_CW mX2_countIn 1 := ⟨ax_mem1 7 (by decide +kernel) rfl, ax_mem1 774 (by decide +kernel) rfl, ⟨by decide +kernel, by decide +kernel, by decide +kernel⟩, by decide⟩
theorem im_X2_countIn : Cond.instanceMethod mX2_countIn.1 ∈ ax_ws := ax_mem1 772 (by decide +kernel) rfl
theorem sl_X2_countIn : Cond.selects mX2_countIn.1.cls mX2_countIn.1 mX2_countIn.1 ∈ ax_ws := ax_mem1 773 (by decide +kernel) rfl
abbrev mX10_may : ax_M := (yX10_may, cX10_may, 3, some (.int), 0, 0)
theorem cw_X10_may : ax_CW mX10_may 2 := ⟨ax_mem1 1 (by decide +kernel) rfl, ax_mem1 778 (by decide +kernel) rfl, ⟨by decide +kernel, by decide +kernel, by decide +kernel⟩, by decide⟩
theorem im_X10_may : Cond.instanceMethod mX10_may.1 ∈ ax_ws := ax_mem1 776 (by decide +kernel) rfl
theorem sl_X10_may : Cond.selects mX10_may.1.cls mX10_may.1 mX10_may.1 ∈ ax_ws := ax_mem1 777 (by decide +kernel) rfl
abbrev mX10_mayTake : ax_M := (yX10_mayTake, cX10_mayTake, 4, some (.boolean), 0, 0)
theorem cw_X10_mayTake : ax_CW mX10_mayTake 2 := ⟨ax_mem1 1 (by decide +kernel) rfl, ax_mem1 782 (by decide +kernel) rfl, ⟨by decide +kernel, by decide +kernel, by decide +kernel⟩, by decide⟩
theorem im_X10_mayTake : Cond.instanceMethod mX10_mayTake.1 ∈ ax_ws := ax_mem1 781 (by decide +kernel) rfl
theorem sl_X10_mayTake : Cond.selects mX10_mayTake.1.cls mX10_mayTake.1 mX10_mayTake.1 ∈ ax_ws := ax_memS (n := 8) 34 (by decide +kernel) rfl
abbrev mX10_mayHear : ax_M := (yX10_mayHear, cX10_mayHear, 3, some (.boolean), 0, 0)
theorem cw_X10_mayHear : ax_CW mX10_mayHear 2 := ⟨ax_mem1 1 (by decide +kernel) rfl, ax_mem1 786 (by decide +kernel) rfl, ⟨by decide +kernel, by decide +kernel, by decide +kernel⟩, by decide⟩
theorem im_X10_mayHear : Cond.instanceMethod mX10_mayHear.1 ∈ ax_ws := ax_mem1 785 (by decide +kernel) rfl
theorem sl_X10_mayHear : Cond.selects mX10_mayHear.1.cls mX10_mayHear.1 mX10_mayHear.1 ∈ ax_ws := ax_memS (n := 8) 35 (by decide +kernel) rfl
abbrev mX1_plays : ax_M := (yX1_plays, cX1_plays, 3, some (.boolean), 0, 0)
theorem cw_X1_plays : ax_CW mX1_plays 2 := ⟨ax_mem1 8 (by decide +kernel) rfl, ax_mem1 790 (by decide +kernel) rfl, ⟨by decide +kernel, by decide +kernel, by decide +kernel⟩, by decide⟩
theorem im_X1_plays : Cond.instanceMethod mX1_plays.1 ∈ ax_ws := ax_mem1 788 (by decide +kernel) rfl
theorem sl_X1_plays : Cond.selects mX1_plays.1.cls mX1_plays.1 mX1_plays.1 ∈ ax_ws := ax_mem1 789 (by decide +kernel) rfl
abbrev mX10_heardElsewhere : ax_M := (yX10_heardElsewhere, cX10_heardElsewhere, 5, some (.boolean), 0, 0)
theorem cw_X10_heardElsewhere : ax_CW mX10_heardElsewhere 2 := ⟨ax_mem1 1 (by decide +kernel) rfl, ax_mem1 794 (by decide +kernel) rfl, ⟨by decide +kernel, by decide +kernel, by decide +kernel⟩, by decide⟩
theorem im_X10_heardElsewhere : Cond.instanceMethod mX10_heardElsewhere.1 ∈ ax_ws := ax_mem1 793 (by decide +kernel) rfl
theorem sl_X10_heardElsewhere : Cond.selects mX10_heardElsewhere.1.cls mX10_heardElsewhere.1 mX10_heardElsewhere.1 ∈ ax_ws := ax_memS (n := 8) 36 (by decide +kernel) rfl
abbrev mX5_stands : ax_M := (yX5_stands, cX5_stands, 2, some (.boolean), 0, 0)
theorem cw_X5_stands : ax_CW mX5_stands 1 := ⟨ax_mem1 10 (by decide +kernel) rfl, ax_mem1 798 (by decide +kernel) rfl, ⟨by decide +kernel, by decide +kernel, by decide +kernel⟩, by decide⟩
theorem im_X5_stands : Cond.instanceMethod mX5_stands.1 ∈ ax_ws := ax_mem1 796 (by decide +kernel) rfl
theorem sl_X5_stands : Cond.selects mX5_stands.1.cls mX5_stands.1 mX5_stands.1 ∈ ax_ws := ax_mem1 797 (by decide +kernel) rfl
abbrev mX10_tour : ax_M := (yX10_tour, cX10_tour, 3, some (.int), 0, 0)
theorem cw_X10_tour : ax_CW mX10_tour 0 := ⟨ax_mem1 1 (by decide +kernel) rfl, ax_mem1 802 (by decide +kernel) rfl, ⟨by decide +kernel, by decide +kernel, by decide +kernel⟩, by decide⟩
theorem im_X10_tour : Cond.instanceMethod mX10_tour.1 ∈ ax_ws := ax_mem1 800 (by decide +kernel) rfl
theorem sl_X10_tour : Cond.selects mX10_tour.1.cls mX10_tour.1 mX10_tour.1 ∈ ax_ws := ax_mem1 801 (by decide +kernel) rfl
abbrev mX7_allow : ax_M := (yX7_allow, cX7_allow, 4, none, 0, 0)
theorem cw_X7_allow : ax_CW mX7_allow 3 := ⟨ax_mem1 9 (by decide +kernel) rfl, ax_mem1 806 (by decide +kernel) rfl, ⟨by decide +kernel, by decide +kernel, by decide +kernel⟩, by decide⟩
theorem im_X7_allow : Cond.instanceMethod mX7_allow.1 ∈ ax_ws := ax_mem1 804 (by decide +kernel) rfl
theorem sl_X7_allow : Cond.selects mX7_allow.1.cls mX7_allow.1 mX7_allow.1 ∈ ax_ws := ax_mem1 805 (by decide +kernel) rfl
abbrev mX7_plan : ax_M := (yX7_plan, cX7_plan, 4, some (.int), 0, 0)
theorem cw_X7_plan : ax_CW mX7_plan 1 := ⟨ax_mem1 9 (by decide +kernel) rfl, ax_mem1 810 (by decide +kernel) rfl, ⟨by decide +kernel, by decide +kernel, by decide +kernel⟩, by decide⟩
theorem im_X7_plan : Cond.instanceMethod mX7_plan.1 ∈ ax_ws := ax_mem1 808 (by decide +kernel) rfl
theorem sl_X7_plan : Cond.selects mX7_plan.1.cls mX7_plan.1 mX7_plan.1 ∈ ax_ws := ax_mem1 809 (by decide +kernel) rfl
abbrev mX7_orderByDay : ax_M := (yX7_orderByDay, cX7_orderByDay, 4, none, 0, 0)
theorem cw_X7_orderByDay : ax_CW mX7_orderByDay 1 := ⟨ax_mem1 9 (by decide +kernel) rfl, ax_mem1 814 (by decide +kernel) rfl, ⟨by decide +kernel, by decide +kernel, by decide +kernel⟩, by decide⟩
theorem im_X7_orderByDay : Cond.instanceMethod mX7_orderByDay.1 ∈ ax_ws := ax_mem1 813 (by decide +kernel) rfl
theorem sl_X7_orderByDay : Cond.selects mX7_orderByDay.1.cls mX7_orderByDay.1 mX7_orderByDay.1 ∈ ax_ws := ax_memS (n := 9) 37 (by decide +kernel) rfl
abbrev mX7_startDay : ax_M := (yX7_startDay, cX7_startDay, 4, none, 0, 0)
theorem cw_X7_startDay : ax_CW mX7_startDay 1 := ⟨ax_mem1 9 (by decide +kernel) rfl, ax_mem1 818 (by decide +kernel) rfl, ⟨by decide +kernel, by decide +kernel, by decide +kernel⟩, by decide⟩
theorem im_X7_startDay : Cond.instanceMethod mX7_startDay.1 ∈ ax_ws := ax_mem1 817 (by decide +kernel) rfl
theorem sl_X7_startDay : Cond.selects mX7_startDay.1.cls mX7_startDay.1 mX7_startDay.1 ∈ ax_ws := ax_memS (n := 9) 38 (by decide +kernel) rfl
abbrev mX7_sendAllHome : ax_M := (yX7_sendAllHome, cX7_sendAllHome, 2, none, 0, 0)
theorem cw_X7_sendAllHome : ax_CW mX7_sendAllHome 0 := ⟨ax_mem1 9 (by decide +kernel) rfl, ax_mem1 822 (by decide +kernel) rfl, ⟨by decide +kernel, by decide +kernel, by decide +kernel⟩, by decide⟩
theorem im_X7_sendAllHome : Cond.instanceMethod mX7_sendAllHome.1 ∈ ax_ws := ax_mem1 821 (by decide +kernel) rfl
theorem sl_X7_sendAllHome : Cond.selects mX7_sendAllHome.1.cls mX7_sendAllHome.1 mX7_sendAllHome.1 ∈ ax_ws := ax_memS (n := 9) 39 (by decide +kernel) rfl
abbrev mJ9_min_f86c9 : ax_M := (yJ9_min_f86c9, cJ9_min_f86c9, 4, some (.long), 0, 0)
theorem cw_J9_min_f86c9 : ax_CW mJ9_min_f86c9 2 := ⟨ax_mem1 13 (by decide +kernel) rfl, ax_mem1 825 (by decide +kernel) rfl, ⟨by decide +kernel, by decide +kernel, by decide +kernel⟩, by decide⟩
theorem sm_J9_min_f86c9 : Cond.static mJ9_min_f86c9.1 ∈ ax_ws := ax_mem1 824 (by decide +kernel) rfl
abbrev mX7_giveDay : ax_M := (yX7_giveDay, cX7_giveDay, 13, none, 0, 0)
theorem cw_X7_giveDay : ax_CW mX7_giveDay 5 := ⟨ax_mem1 9 (by decide +kernel) rfl, ax_mem1 830 (by decide +kernel) rfl, ⟨by decide +kernel, by decide +kernel, by decide +kernel⟩, by decide⟩
theorem im_X7_giveDay : Cond.instanceMethod mX7_giveDay.1 ∈ ax_ws := ax_mem1 829 (by decide +kernel) rfl
theorem sl_X7_giveDay : Cond.selects mX7_giveDay.1.cls mX7_giveDay.1 mX7_giveDay.1 ∈ ax_ws := ax_memS (n := 9) 40 (by decide +kernel) rfl
abbrev mX7_addState : ax_M := (yX7_addState, cX7_addState, 10, none, 0, 0)
theorem cw_X7_addState : ax_CW mX7_addState 3 := ⟨ax_mem1 9 (by decide +kernel) rfl, ax_mem1 834 (by decide +kernel) rfl, ⟨by decide +kernel, by decide +kernel, by decide +kernel⟩, by decide⟩
theorem im_X7_addState : Cond.instanceMethod mX7_addState.1 ∈ ax_ws := ax_mem1 833 (by decide +kernel) rfl
theorem sl_X7_addState : Cond.selects mX7_addState.1.cls mX7_addState.1 mX7_addState.1 ∈ ax_ws := ax_memS (n := 9) 41 (by decide +kernel) rfl
abbrev mX7_savedBetween : ax_M := (yX7_savedBetween, cX7_savedBetween, 9, some (.long), 0, 0)
theorem cw_X7_savedBetween : ax_CW mX7_savedBetween 3 := ⟨ax_mem1 9 (by decide +kernel) rfl, ax_mem1 837 (by decide +kernel) rfl, ⟨by decide +kernel, by decide +kernel, by decide +kernel⟩, by decide⟩
theorem sm_X7_savedBetween : Cond.static mX7_savedBetween.1 ∈ ax_ws := ax_mem1 836 (by decide +kernel) rfl
abbrev mX7_placeOf : ax_M := (yX7_placeOf, cX7_placeOf, 2, some (.int), 0, 0)
theorem cw_X7_placeOf : ax_CW mX7_placeOf 2 := ⟨ax_mem1 9 (by decide +kernel) rfl, ax_mem1 840 (by decide +kernel) rfl, ⟨by decide +kernel, by decide +kernel, by decide +kernel⟩, by decide⟩
theorem sm_X7_placeOf : Cond.static mX7_placeOf.1 ∈ ax_ws := ax_mem1 839 (by decide +kernel) rfl
abbrev mX1_minutesBetween : ax_M := (yX1_minutesBetween, cX1_minutesBetween, 3, some (.int), 0, 0)
theorem cw_X1_minutesBetween : ax_CW mX1_minutesBetween 2 := ⟨ax_mem1 8 (by decide +kernel) rfl, ax_mem1 845 (by decide +kernel) rfl, ⟨by decide +kernel, by decide +kernel, by decide +kernel⟩, by decide⟩
theorem im_X1_minutesBetween : Cond.instanceMethod mX1_minutesBetween.1 ∈ ax_ws := ax_mem1 843 (by decide +kernel) rfl
theorem sl_X1_minutesBetween : Cond.selects mX1_minutesBetween.1.cls mX1_minutesBetween.1 mX1_minutesBetween.1 ∈ ax_ws := ax_mem1 844 (by decide +kernel) rfl
abbrev mX7_costOf : ax_M := (yX7_costOf, cX7_costOf, 6, some (.long), 0, 0)
theorem cw_X7_costOf : ax_CW mX7_costOf 3 := ⟨ax_mem1 9 (by decide +kernel) rfl, ax_mem1 848 (by decide +kernel) rfl, ⟨by decide +kernel, by decide +kernel, by decide +kernel⟩, by decide⟩
theorem sm_X7_costOf : Cond.static mX7_costOf.1 ∈ ax_ws := ax_mem1 847 (by decide +kernel) rfl
abbrev mX7_choose : ax_M := (yX7_choose, cX7_choose, 5, none, 0, 0)
theorem cw_X7_choose : ax_CW mX7_choose 2 := ⟨ax_mem1 9 (by decide +kernel) rfl, ax_mem1 853 (by decide +kernel) rfl, ⟨by decide +kernel, by decide +kernel, by decide +kernel⟩, by decide⟩
theorem im_X7_choose : Cond.instanceMethod mX7_choose.1 ∈ ax_ws := ax_mem1 852 (by decide +kernel) rfl
theorem sl_X7_choose : Cond.selects mX7_choose.1.cls mX7_choose.1 mX7_choose.1 ∈ ax_ws := ax_memS (n := 9) 42 (by decide +kernel) rfl
abbrev mX10_toured : ax_M := (yX10_toured, cX10_toured, 2, some (.int), 0, 0)
theorem cw_X10_toured : ax_CW mX10_toured 1 := ⟨ax_mem1 1 (by decide +kernel) rfl, ax_mem1 857 (by decide +kernel) rfl, ⟨by decide +kernel, by decide +kernel, by decide +kernel⟩, by decide⟩
theorem im_X10_toured : Cond.instanceMethod mX10_toured.1 ∈ ax_ws := ax_mem1 855 (by decide +kernel) rfl
theorem sl_X10_toured : Cond.selects mX10_toured.1.cls mX10_toured.1 mX10_toured.1 ∈ ax_ws := ax_mem1 856 (by decide +kernel) rfl
abbrev mX10_stuck : ax_M := (yX10_stuck, cX10_stuck, 2, some (.int), 0, 0)
theorem cw_X10_stuck : ax_CW mX10_stuck 0 := ⟨ax_mem1 1 (by decide +kernel) rfl, ax_mem1 861 (by decide +kernel) rfl, ⟨by decide +kernel, by decide +kernel, by decide +kernel⟩, by decide⟩
theorem im_X10_stuck : Cond.instanceMethod mX10_stuck.1 ∈ ax_ws := ax_mem1 859 (by decide +kernel) rfl
theorem sl_X10_stuck : Cond.selects mX10_stuck.1.cls mX10_stuck.1 mX10_stuck.1 ∈ ax_ws := ax_mem1 860 (by decide +kernel) rfl
abbrev mX10_canBeTaken : ax_M := (yX10_canBeTaken, cX10_canBeTaken, 3, some (.boolean), 0, 0)
theorem cw_X10_canBeTaken : ax_CW mX10_canBeTaken 1 := ⟨ax_mem1 1 (by decide +kernel) rfl, ax_mem1 865 (by decide +kernel) rfl, ⟨by decide +kernel, by decide +kernel, by decide +kernel⟩, by decide⟩
theorem im_X10_canBeTaken : Cond.instanceMethod mX10_canBeTaken.1 ∈ ax_ws := ax_mem1 864 (by decide +kernel) rfl
theorem sl_X10_canBeTaken : Cond.selects mX10_canBeTaken.1.cls mX10_canBeTaken.1 mX10_canBeTaken.1 ∈ ax_ws := ax_memS (n := 8) 43 (by decide +kernel) rfl
abbrev mX10_later : ax_M := (yX10_later, cX10_later, 2, some (.int), 0, 0)
theorem cw_X10_later : ax_CW mX10_later 1 := ⟨ax_mem1 1 (by decide +kernel) rfl, ax_mem1 869 (by decide +kernel) rfl, ⟨by decide +kernel, by decide +kernel, by decide +kernel⟩, by decide⟩
theorem im_X10_later : Cond.instanceMethod mX10_later.1 ∈ ax_ws := ax_mem1 867 (by decide +kernel) rfl
theorem sl_X10_later : Cond.selects mX10_later.1.cls mX10_later.1 mX10_later.1 ∈ ax_ws := ax_mem1 868 (by decide +kernel) rfl
abbrev mX10_mark : ax_M := (yX10_mark, cX10_mark, 6, some (.int), 0, 0)
theorem cw_X10_mark : ax_CW mX10_mark 4 := ⟨ax_mem1 1 (by decide +kernel) rfl, ax_mem1 874 (by decide +kernel) rfl, ⟨by decide +kernel, by decide +kernel, by decide +kernel⟩, by decide⟩
theorem im_X10_mark : Cond.instanceMethod mX10_mark.1 ∈ ax_ws := ax_mem1 872 (by decide +kernel) rfl
theorem sl_X10_mark : Cond.selects mX10_mark.1.cls mX10_mark.1 mX10_mark.1 ∈ ax_ws := ax_mem1 873 (by decide +kernel) rfl
abbrev mX10_canBeMarked : ax_M := (yX10_canBeMarked, cX10_canBeMarked, 5, some (.boolean), 0, 0)
theorem cw_X10_canBeMarked : ax_CW mX10_canBeMarked 3 := ⟨ax_mem1 1 (by decide +kernel) rfl, ax_mem1 878 (by decide +kernel) rfl, ⟨by decide +kernel, by decide +kernel, by decide +kernel⟩, by decide⟩
theorem im_X10_canBeMarked : Cond.instanceMethod mX10_canBeMarked.1 ∈ ax_ws := ax_mem1 877 (by decide +kernel) rfl
theorem sl_X10_canBeMarked : Cond.selects mX10_canBeMarked.1.cls mX10_canBeMarked.1 mX10_canBeMarked.1 ∈ ax_ws := ax_memS (n := 8) 44 (by decide +kernel) rfl
abbrev mX5_tell : ax_M := (yX5_tell, cX5_tell, 5, some (.int), 0, 0)
theorem cw_X5_tell : ax_CW mX5_tell 4 := ⟨ax_mem1 10 (by decide +kernel) rfl, ax_mem1 882 (by decide +kernel) rfl, ⟨by decide +kernel, by decide +kernel, by decide +kernel⟩, by decide⟩
theorem im_X5_tell : Cond.instanceMethod mX5_tell.1 ∈ ax_ws := ax_mem1 880 (by decide +kernel) rfl
theorem sl_X5_tell : Cond.selects mX5_tell.1.cls mX5_tell.1 mX5_tell.1 ∈ ax_ws := ax_mem1 881 (by decide +kernel) rfl
abbrev mX10_appeal : ax_M := (yX10_appeal, cX10_appeal, 5, some (.int), 0, 0)
theorem cw_X10_appeal : ax_CW mX10_appeal 3 := ⟨ax_mem1 1 (by decide +kernel) rfl, ax_mem1 886 (by decide +kernel) rfl, ⟨by decide +kernel, by decide +kernel, by decide +kernel⟩, by decide⟩
theorem im_X10_appeal : Cond.instanceMethod mX10_appeal.1 ∈ ax_ws := ax_mem1 884 (by decide +kernel) rfl
theorem sl_X10_appeal : Cond.selects mX10_appeal.1.cls mX10_appeal.1 mX10_appeal.1 ∈ ax_ws := ax_mem1 885 (by decide +kernel) rfl
abbrev mX5_knownPoints : ax_M := (yX5_knownPoints, cX5_knownPoints, 5, some (.int), 0, 0)
theorem cw_X5_knownPoints : ax_CW mX5_knownPoints 3 := ⟨ax_mem1 10 (by decide +kernel) rfl, ax_mem1 890 (by decide +kernel) rfl, ⟨by decide +kernel, by decide +kernel, by decide +kernel⟩, by decide⟩
theorem im_X5_knownPoints : Cond.instanceMethod mX5_knownPoints.1 ∈ ax_ws := ax_mem1 888 (by decide +kernel) rfl
theorem sl_X5_knownPoints : Cond.selects mX5_knownPoints.1.cls mX5_knownPoints.1 mX5_knownPoints.1 ∈ ax_ws := ax_mem1 889 (by decide +kernel) rfl
abbrev mX5_lastOf : ax_M := (yX5_lastOf, cX5_lastOf, 6, some (.int), 0, 0)
theorem cw_X5_lastOf : ax_CW mX5_lastOf 4 := ⟨ax_mem1 10 (by decide +kernel) rfl, ax_mem1 894 (by decide +kernel) rfl, ⟨by decide +kernel, by decide +kernel, by decide +kernel⟩, by decide⟩
theorem im_X5_lastOf : Cond.instanceMethod mX5_lastOf.1 ∈ ax_ws := ax_mem1 893 (by decide +kernel) rfl
theorem sl_X5_lastOf : Cond.selects mX5_lastOf.1.cls mX5_lastOf.1 mX5_lastOf.1 ∈ ax_ws := ax_memS (n := 9) 45 (by decide +kernel) rfl
abbrev mX5_isKnown : ax_M := (yX5_isKnown, cX5_isKnown, 3, some (.boolean), 0, 0)
theorem cw_X5_isKnown : ax_CW mX5_isKnown 2 := ⟨ax_mem1 10 (by decide +kernel) rfl, ax_mem1 898 (by decide +kernel) rfl, ⟨by decide +kernel, by decide +kernel, by decide +kernel⟩, by decide⟩
theorem im_X5_isKnown : Cond.instanceMethod mX5_isKnown.1 ∈ ax_ws := ax_mem1 897 (by decide +kernel) rfl
theorem sl_X5_isKnown : Cond.selects mX5_isKnown.1.cls mX5_isKnown.1 mX5_isKnown.1 ∈ ax_ws := ax_memS (n := 9) 46 (by decide +kernel) rfl
abbrev mX5_mainOf : ax_M := (yX5_mainOf, cX5_mainOf, 4, some (.int), 0, 0)
theorem cw_X5_mainOf : ax_CW mX5_mainOf 2 := ⟨ax_mem1 10 (by decide +kernel) rfl, ax_mem1 903 (by decide +kernel) rfl, ⟨by decide +kernel, by decide +kernel, by decide +kernel⟩, by decide⟩
theorem im_X5_mainOf : Cond.instanceMethod mX5_mainOf.1 ∈ ax_ws := ax_mem1 901 (by decide +kernel) rfl
theorem sl_X5_mainOf : Cond.selects mX5_mainOf.1.cls mX5_mainOf.1 mX5_mainOf.1 ∈ ax_ws := ax_mem1 902 (by decide +kernel) rfl
abbrev mX10_untell : ax_M := (yX10_untell, cX10_untell, 2, some (.boolean), 0, 0)
theorem cw_X10_untell : ax_CW mX10_untell 1 := ⟨ax_mem1 1 (by decide +kernel) rfl, ax_mem1 907 (by decide +kernel) rfl, ⟨by decide +kernel, by decide +kernel, by decide +kernel⟩, by decide⟩
theorem im_X10_untell : Cond.instanceMethod mX10_untell.1 ∈ ax_ws := ax_mem1 905 (by decide +kernel) rfl
theorem sl_X10_untell : Cond.selects mX10_untell.1.cls mX10_untell.1 mX10_untell.1 ∈ ax_ws := ax_mem1 906 (by decide +kernel) rfl
abbrev mX5_takeBack : ax_M := (yX5_takeBack, cX5_takeBack, 2, some (.boolean), 0, 0)
theorem cw_X5_takeBack : ax_CW mX5_takeBack 1 := ⟨ax_mem1 10 (by decide +kernel) rfl, ax_mem1 911 (by decide +kernel) rfl, ⟨by decide +kernel, by decide +kernel, by decide +kernel⟩, by decide⟩
theorem im_X5_takeBack : Cond.instanceMethod mX5_takeBack.1 ∈ ax_ws := ax_mem1 909 (by decide +kernel) rfl
theorem sl_X5_takeBack : Cond.selects mX5_takeBack.1.cls mX5_takeBack.1 mX5_takeBack.1 ∈ ax_ws := ax_mem1 910 (by decide +kernel) rfl
abbrev mX10_known : ax_M := (yX10_known, cX10_known, 4, some (.int), 0, 0)
theorem cw_X10_known : ax_CW mX10_known 3 := ⟨ax_mem1 1 (by decide +kernel) rfl, ax_mem1 915 (by decide +kernel) rfl, ⟨by decide +kernel, by decide +kernel, by decide +kernel⟩, by decide⟩
theorem im_X10_known : Cond.instanceMethod mX10_known.1 ∈ ax_ws := ax_mem1 913 (by decide +kernel) rfl
theorem sl_X10_known : Cond.selects mX10_known.1.cls mX10_known.1 mX10_known.1 ∈ ax_ws := ax_mem1 914 (by decide +kernel) rfl
abbrev mX10_main : ax_M := (yX10_main, cX10_main, 3, some (.int), 0, 0)
theorem cw_X10_main : ax_CW mX10_main 2 := ⟨ax_mem1 1 (by decide +kernel) rfl, ax_mem1 919 (by decide +kernel) rfl, ⟨by decide +kernel, by decide +kernel, by decide +kernel⟩, by decide⟩
theorem im_X10_main : Cond.instanceMethod mX10_main.1 ∈ ax_ws := ax_mem1 917 (by decide +kernel) rfl
theorem sl_X10_main : Cond.selects mX10_main.1.cls mX10_main.1 mX10_main.1 ∈ ax_ws := ax_mem1 918 (by decide +kernel) rfl
abbrev mX10_result : ax_M := (yX10_result, cX10_result, 3, some (.int), 0, 0)
theorem cw_X10_result : ax_CW mX10_result 2 := ⟨ax_mem1 1 (by decide +kernel) rfl, ax_mem1 924 (by decide +kernel) rfl, ⟨by decide +kernel, by decide +kernel, by decide +kernel⟩, by decide⟩
theorem im_X10_result : Cond.instanceMethod mX10_result.1 ∈ ax_ws := ax_mem1 922 (by decide +kernel) rfl
theorem sl_X10_result : Cond.selects mX10_result.1.cls mX10_result.1 mX10_result.1 ∈ ax_ws := ax_mem1 923 (by decide +kernel) rfl
abbrev mX10_resultOf : ax_M := (yX10_resultOf, cX10_resultOf, 7, some (.int), 0, 0)
theorem cw_X10_resultOf : ax_CW mX10_resultOf 2 := ⟨ax_mem1 1 (by decide +kernel) rfl, ax_mem1 928 (by decide +kernel) rfl, ⟨by decide +kernel, by decide +kernel, by decide +kernel⟩, by decide⟩
theorem im_X10_resultOf : Cond.instanceMethod mX10_resultOf.1 ∈ ax_ws := ax_mem1 927 (by decide +kernel) rfl
theorem sl_X10_resultOf : Cond.selects mX10_resultOf.1.cls mX10_resultOf.1 mX10_resultOf.1 ∈ ax_ws := ax_memS (n := 8) 47 (by decide +kernel) rfl
abbrev mX10_hardness : ax_M := (yX10_hardness, cX10_hardness, 2, some (.int), 0, 0)
theorem cw_X10_hardness : ax_CW mX10_hardness 1 := ⟨ax_mem1 1 (by decide +kernel) rfl, ax_mem1 932 (by decide +kernel) rfl, ⟨by decide +kernel, by decide +kernel, by decide +kernel⟩, by decide⟩
theorem im_X10_hardness : Cond.instanceMethod mX10_hardness.1 ∈ ax_ws := ax_mem1 930 (by decide +kernel) rfl
theorem sl_X10_hardness : Cond.selects mX10_hardness.1.cls mX10_hardness.1 mX10_hardness.1 ∈ ax_ws := ax_mem1 931 (by decide +kernel) rfl
abbrev mX5_hardnessOf : ax_M := (yX5_hardnessOf, cX5_hardnessOf, 8, some (.int), 0, 0)
theorem cw_X5_hardnessOf : ax_CW mX5_hardnessOf 2 := ⟨ax_mem1 10 (by decide +kernel) rfl, ax_mem1 936 (by decide +kernel) rfl, ⟨by decide +kernel, by decide +kernel, by decide +kernel⟩, by decide⟩
theorem im_X5_hardnessOf : Cond.instanceMethod mX5_hardnessOf.1 ∈ ax_ws := ax_mem1 934 (by decide +kernel) rfl
theorem sl_X5_hardnessOf : Cond.selects mX5_hardnessOf.1.cls mX5_hardnessOf.1 mX5_hardnessOf.1 ∈ ax_ws := ax_mem1 935 (by decide +kernel) rfl
abbrev mX5_insertGap : ax_M := (yX5_insertGap, cX5_insertGap, 4, some (.int), 0, 0)
theorem cw_X5_insertGap : ax_CW mX5_insertGap 2 := ⟨ax_mem1 10 (by decide +kernel) rfl, ax_mem1 940 (by decide +kernel) rfl, ⟨by decide +kernel, by decide +kernel, by decide +kernel⟩, by decide⟩
theorem im_X5_insertGap : Cond.instanceMethod mX5_insertGap.1 ∈ ax_ws := ax_mem1 939 (by decide +kernel) rfl
theorem sl_X5_insertGap : Cond.selects mX5_insertGap.1.cls mX5_insertGap.1 mX5_insertGap.1 ∈ ax_ws := ax_memS (n := 9) 48 (by decide +kernel) rfl
abbrev mX10_certify : ax_M := (yX10_certify, cX10_certify, 3, some (.int), 0, 0)
theorem cw_X10_certify : ax_CW mX10_certify 1 := ⟨ax_mem1 1 (by decide +kernel) rfl, ax_mem1 944 (by decide +kernel) rfl, ⟨by decide +kernel, by decide +kernel, by decide +kernel⟩, by decide⟩
theorem im_X10_certify : Cond.instanceMethod mX10_certify.1 ∈ ax_ws := ax_mem1 942 (by decide +kernel) rfl
theorem sl_X10_certify : Cond.selects mX10_certify.1.cls mX10_certify.1 mX10_certify.1 ∈ ax_ws := ax_mem1 943 (by decide +kernel) rfl
abbrev mX0_anyUpTo : ax_M := (yX0_anyUpTo, cX0_anyUpTo, 4, some (.boolean), 0, 0)
theorem cw_X0_anyUpTo : ax_CW mX0_anyUpTo 2 := ⟨ax_mem1 11 (by decide +kernel) rfl, ax_mem1 948 (by decide +kernel) rfl, ⟨by decide +kernel, by decide +kernel, by decide +kernel⟩, by decide⟩
theorem im_X0_anyUpTo : Cond.instanceMethod mX0_anyUpTo.1 ∈ ax_ws := ax_mem1 946 (by decide +kernel) rfl
theorem sl_X0_anyUpTo : Cond.selects mX0_anyUpTo.1.cls mX0_anyUpTo.1 mX0_anyUpTo.1 ∈ ax_ws := ax_mem1 947 (by decide +kernel) rfl
abbrev mX0_give : ax_M := (yX0_give, cX0_give, 4, some (.int), 0, 0)
theorem cw_X0_give : ax_CW mX0_give 3 := ⟨ax_mem1 11 (by decide +kernel) rfl, ax_mem1 952 (by decide +kernel) rfl, ⟨by decide +kernel, by decide +kernel, by decide +kernel⟩, by decide⟩
theorem im_X0_give : Cond.instanceMethod mX0_give.1 ∈ ax_ws := ax_mem1 950 (by decide +kernel) rfl
theorem sl_X0_give : Cond.selects mX0_give.1.cls mX0_give.1 mX0_give.1 ∈ ax_ws := ax_mem1 951 (by decide +kernel) rfl
abbrev mX10_certificate : ax_M := (yX10_certificate, cX10_certificate, 3, some (.int), 0, 0)
theorem cw_X10_certificate : ax_CW mX10_certificate 2 := ⟨ax_mem1 1 (by decide +kernel) rfl, ax_mem1 956 (by decide +kernel) rfl, ⟨by decide +kernel, by decide +kernel, by decide +kernel⟩, by decide⟩
theorem im_X10_certificate : Cond.instanceMethod mX10_certificate.1 ∈ ax_ws := ax_mem1 954 (by decide +kernel) rfl
theorem sl_X10_certificate : Cond.selects mX10_certificate.1.cls mX10_certificate.1 mX10_certificate.1 ∈ ax_ws := ax_mem1 955 (by decide +kernel) rfl
abbrev mX0_has : ax_M := (yX0_has, cX0_has, 2, some (.boolean), 0, 0)
theorem cw_X0_has : ax_CW mX0_has 1 := ⟨ax_mem1 11 (by decide +kernel) rfl, ax_mem1 960 (by decide +kernel) rfl, ⟨by decide +kernel, by decide +kernel, by decide +kernel⟩, by decide⟩
theorem im_X0_has : Cond.instanceMethod mX0_has.1 ∈ ax_ws := ax_mem1 958 (by decide +kernel) rfl
theorem sl_X0_has : Cond.selects mX0_has.1.cls mX0_has.1 mX0_has.1 ∈ ax_ws := ax_mem1 959 (by decide +kernel) rfl
abbrev mX10_holds : ax_M := (yX10_holds, cX10_holds, 5, some (.int), 0, 0)
theorem cw_X10_holds : ax_CW mX10_holds 2 := ⟨ax_mem1 1 (by decide +kernel) rfl, ax_mem1 964 (by decide +kernel) rfl, ⟨by decide +kernel, by decide +kernel, by decide +kernel⟩, by decide⟩
theorem im_X10_holds : Cond.instanceMethod mX10_holds.1 ∈ ax_ws := ax_mem1 962 (by decide +kernel) rfl
theorem sl_X10_holds : Cond.selects mX10_holds.1.cls mX10_holds.1 mX10_holds.1 ∈ ax_ws := ax_mem1 963 (by decide +kernel) rfl
abbrev mX10_about : ax_M := (yX10_about, cX10_about, 2, some (.int), 0, 0)
theorem cw_X10_about : ax_CW mX10_about 1 := ⟨ax_mem1 1 (by decide +kernel) rfl, ax_mem1 968 (by decide +kernel) rfl, ⟨by decide +kernel, by decide +kernel, by decide +kernel⟩, by decide⟩
theorem im_X10_about : Cond.instanceMethod mX10_about.1 ∈ ax_ws := ax_mem1 966 (by decide +kernel) rfl
theorem sl_X10_about : Cond.selects mX10_about.1.cls mX10_about.1 mX10_about.1 ∈ ax_ws := ax_mem1 967 (by decide +kernel) rfl
abbrev mX11_init : ax_M := (yX11_init, cX11_init, 2, none, 55, 31644)
theorem cw_X11_init : ax_CW mX11_init 0 := ⟨ax_mem1 12 (by decide +kernel) rfl, ax_mem1 973 (by decide +kernel) rfl, ⟨by decide +kernel, by decide +kernel, by decide +kernel⟩, by decide⟩
theorem im_X11_init : Cond.instanceMethod mX11_init.1 ∈ ax_ws := ax_mem1 972 (by decide +kernel) rfl
abbrev mX11_syllabus : ax_M := (yX11_syllabus, cX11_syllabus, 3, some (.int), 0, 0)
theorem cw_X11_syllabus : ax_CW mX11_syllabus 1 := ⟨ax_mem1 12 (by decide +kernel) rfl, ax_mem1 1210 (by decide +kernel) rfl, ⟨by decide +kernel, by decide +kernel, by decide +kernel⟩, by decide⟩
theorem im_X11_syllabus : Cond.instanceMethod mX11_syllabus.1 ∈ ax_ws := ax_mem1 1208 (by decide +kernel) rfl
theorem sl_X11_syllabus : Cond.selects mX11_syllabus.1.cls mX11_syllabus.1 mX11_syllabus.1 ∈ ax_ws := ax_mem1 1209 (by decide +kernel) rfl
abbrev mX11_next : ax_M := (yX11_next, cX11_next, 3, none, 0, 0)
theorem cw_X11_next : ax_CW mX11_next 0 := ⟨ax_mem1 12 (by decide +kernel) rfl, ax_mem1 1214 (by decide +kernel) rfl, ⟨by decide +kernel, by decide +kernel, by decide +kernel⟩, by decide⟩
theorem im_X11_next : Cond.instanceMethod mX11_next.1 ∈ ax_ws := ax_mem1 1213 (by decide +kernel) rfl
theorem sl_X11_next : Cond.selects mX11_next.1.cls mX11_next.1 mX11_next.1 ∈ ax_ws := ax_memS (n := 77) 49 (by decide +kernel) rfl
abbrev mX11_sign : ax_M := (yX11_sign, cX11_sign, 2, some (.int), 0, 0)
theorem cw_X11_sign : ax_CW mX11_sign 1 := ⟨ax_mem1 12 (by decide +kernel) rfl, ax_mem1 1218 (by decide +kernel) rfl, ⟨by decide +kernel, by decide +kernel, by decide +kernel⟩, by decide⟩
theorem im_X11_sign : Cond.instanceMethod mX11_sign.1 ∈ ax_ws := ax_mem1 1217 (by decide +kernel) rfl
theorem sl_X11_sign : Cond.selects mX11_sign.1.cls mX11_sign.1 mX11_sign.1 ∈ ax_ws := ax_memS (n := 77) 50 (by decide +kernel) rfl
abbrev mX11_isLetter : ax_M := (yX11_isLetter, cX11_isLetter, 1, some (.boolean), 0, 0)
theorem cw_X11_isLetter : ax_CW mX11_isLetter 1 := ⟨ax_mem1 12 (by decide +kernel) rfl, ax_mem1 1221 (by decide +kernel) rfl, ⟨by decide +kernel, by decide +kernel, by decide +kernel⟩, by decide⟩
theorem sm_X11_isLetter : Cond.static mX11_isLetter.1 ∈ ax_ws := ax_mem1 1220 (by decide +kernel) rfl
abbrev mX11_isDigit : ax_M := (yX11_isDigit, cX11_isDigit, 1, some (.boolean), 0, 0)
theorem cw_X11_isDigit : ax_CW mX11_isDigit 1 := ⟨ax_mem1 12 (by decide +kernel) rfl, ax_mem1 1224 (by decide +kernel) rfl, ⟨by decide +kernel, by decide +kernel, by decide +kernel⟩, by decide⟩
theorem sm_X11_isDigit : Cond.static mX11_isDigit.1 ∈ ax_ws := ax_mem1 1223 (by decide +kernel) rfl
abbrev mX11_isKept : ax_M := (yX11_isKept, cX11_isKept, 2, some (.boolean), 0, 0)
theorem cw_X11_isKept : ax_CW mX11_isKept 1 := ⟨ax_mem1 12 (by decide +kernel) rfl, ax_mem1 1227 (by decide +kernel) rfl, ⟨by decide +kernel, by decide +kernel, by decide +kernel⟩, by decide⟩
theorem sm_X11_isKept : Cond.static mX11_isKept.1 ∈ ax_ws := ax_mem1 1226 (by decide +kernel) rfl
abbrev mX11_isMeant : ax_M := (yX11_isMeant, cX11_isMeant, 2, some (.boolean), 0, 0)
theorem cw_X11_isMeant : ax_CW mX11_isMeant 1 := ⟨ax_mem1 12 (by decide +kernel) rfl, ax_mem1 1230 (by decide +kernel) rfl, ⟨by decide +kernel, by decide +kernel, by decide +kernel⟩, by decide⟩
theorem sm_X11_isMeant : Cond.static mX11_isMeant.1 ∈ ax_ws := ax_mem1 1229 (by decide +kernel) rfl
abbrev mX11_isGood : ax_M := (yX11_isGood, cX11_isGood, 1, some (.boolean), 0, 0)
theorem cw_X11_isGood : ax_CW mX11_isGood 0 := ⟨ax_mem1 12 (by decide +kernel) rfl, ax_mem1 1249 (by decide +kernel) rfl, ⟨by decide +kernel, by decide +kernel, by decide +kernel⟩, by decide⟩
theorem im_X11_isGood : Cond.instanceMethod mX11_isGood.1 ∈ ax_ws := ax_mem1 1248 (by decide +kernel) rfl
theorem sl_X11_isGood : Cond.selects mX11_isGood.1.cls mX11_isGood.1 mX11_isGood.1 ∈ ax_ws := ax_memS (n := 77) 51 (by decide +kernel) rfl
abbrev mX11_readGrade : ax_M := (yX11_readGrade, cX11_readGrade, 3, none, 0, 0)
theorem cw_X11_readGrade : ax_CW mX11_readGrade 0 := ⟨ax_mem1 12 (by decide +kernel) rfl, ax_mem1 1253 (by decide +kernel) rfl, ⟨by decide +kernel, by decide +kernel, by decide +kernel⟩, by decide⟩
theorem im_X11_readGrade : Cond.instanceMethod mX11_readGrade.1 ∈ ax_ws := ax_mem1 1252 (by decide +kernel) rfl
theorem sl_X11_readGrade : Cond.selects mX11_readGrade.1.cls mX11_readGrade.1 mX11_readGrade.1 ∈ ax_ws := ax_memS (n := 77) 52 (by decide +kernel) rfl
abbrev mX11_isWord : ax_M := (yX11_isWord, cX11_isWord, 3, some (.boolean), 0, 0)
theorem cw_X11_isWord : ax_CW mX11_isWord 1 := ⟨ax_mem1 12 (by decide +kernel) rfl, ax_mem1 1257 (by decide +kernel) rfl, ⟨by decide +kernel, by decide +kernel, by decide +kernel⟩, by decide⟩
theorem im_X11_isWord : Cond.instanceMethod mX11_isWord.1 ∈ ax_ws := ax_mem1 1256 (by decide +kernel) rfl
theorem sl_X11_isWord : Cond.selects mX11_isWord.1.cls mX11_isWord.1 mX11_isWord.1 ∈ ax_ws := ax_memS (n := 77) 53 (by decide +kernel) rfl
abbrev mX11_wrong : ax_M := (yX11_wrong, cX11_wrong, 1, none, 0, 0)
theorem cw_X11_wrong : ax_CW mX11_wrong 0 := ⟨ax_mem1 12 (by decide +kernel) rfl, ax_mem1 1261 (by decide +kernel) rfl, ⟨by decide +kernel, by decide +kernel, by decide +kernel⟩, by decide⟩
theorem im_X11_wrong : Cond.instanceMethod mX11_wrong.1 ∈ ax_ws := ax_mem1 1260 (by decide +kernel) rfl
theorem sl_X11_wrong : Cond.selects mX11_wrong.1.cls mX11_wrong.1 mX11_wrong.1 ∈ ax_ws := ax_memS (n := 77) 54 (by decide +kernel) rfl
abbrev mX11_fails : ax_M := (yX11_fails, cX11_fails, 3, none, 0, 0)
theorem cw_X11_fails : ax_CW mX11_fails 2 := ⟨ax_mem1 12 (by decide +kernel) rfl, ax_mem1 1265 (by decide +kernel) rfl, ⟨by decide +kernel, by decide +kernel, by decide +kernel⟩, by decide⟩
theorem im_X11_fails : Cond.instanceMethod mX11_fails.1 ∈ ax_ws := ax_mem1 1264 (by decide +kernel) rfl
theorem sl_X11_fails : Cond.selects mX11_fails.1.cls mX11_fails.1 mX11_fails.1 ∈ ax_ws := ax_memS (n := 77) 55 (by decide +kernel) rfl
abbrev mX11_numberOf : ax_M := (yX11_numberOf, cX11_numberOf, 4, some (.int), 0, 0)
theorem cw_X11_numberOf : ax_CW mX11_numberOf 2 := ⟨ax_mem1 12 (by decide +kernel) rfl, ax_mem1 1269 (by decide +kernel) rfl, ⟨by decide +kernel, by decide +kernel, by decide +kernel⟩, by decide⟩
theorem im_X11_numberOf : Cond.instanceMethod mX11_numberOf.1 ∈ ax_ws := ax_mem1 1268 (by decide +kernel) rfl
theorem sl_X11_numberOf : Cond.selects mX11_numberOf.1.cls mX11_numberOf.1 mX11_numberOf.1 ∈ ax_ws := ax_memS (n := 77) 56 (by decide +kernel) rfl
abbrev mX11_must : ax_M := (yX11_must, cX11_must, 2, none, 0, 0)
theorem cw_X11_must : ax_CW mX11_must 1 := ⟨ax_mem1 12 (by decide +kernel) rfl, ax_mem1 1273 (by decide +kernel) rfl, ⟨by decide +kernel, by decide +kernel, by decide +kernel⟩, by decide⟩
theorem im_X11_must : Cond.instanceMethod mX11_must.1 ∈ ax_ws := ax_mem1 1272 (by decide +kernel) rfl
theorem sl_X11_must : Cond.selects mX11_must.1.cls mX11_must.1 mX11_must.1 ∈ ax_ws := ax_memS (n := 77) 57 (by decide +kernel) rfl
abbrev mX11_is : ax_M := (yX11_is, cX11_is, 2, some (.boolean), 0, 0)
theorem cw_X11_is : ax_CW mX11_is 1 := ⟨ax_mem1 12 (by decide +kernel) rfl, ax_mem1 1277 (by decide +kernel) rfl, ⟨by decide +kernel, by decide +kernel, by decide +kernel⟩, by decide⟩
theorem im_X11_is : Cond.instanceMethod mX11_is.1 ∈ ax_ws := ax_mem1 1276 (by decide +kernel) rfl
theorem sl_X11_is : Cond.selects mX11_is.1.cls mX11_is.1 mX11_is.1 ∈ ax_ws := ax_memS (n := 77) 58 (by decide +kernel) rfl
abbrev mX11_readItem : ax_M := (yX11_readItem, cX11_readItem, 6, none, 0, 0)
theorem cw_X11_readItem : ax_CW mX11_readItem 1 := ⟨ax_mem1 12 (by decide +kernel) rfl, ax_mem1 1281 (by decide +kernel) rfl, ⟨by decide +kernel, by decide +kernel, by decide +kernel⟩, by decide⟩
theorem im_X11_readItem : Cond.instanceMethod mX11_readItem.1 ∈ ax_ws := ax_mem1 1280 (by decide +kernel) rfl
theorem sl_X11_readItem : Cond.selects mX11_readItem.1.cls mX11_readItem.1 mX11_readItem.1 ∈ ax_ws := ax_memS (n := 77) 59 (by decide +kernel) rfl
abbrev mX11_readList : ax_M := (yX11_readList, cX11_readList, 4, none, 0, 0)
theorem cw_X11_readList : ax_CW mX11_readList 1 := ⟨ax_mem1 12 (by decide +kernel) rfl, ax_mem1 1285 (by decide +kernel) rfl, ⟨by decide +kernel, by decide +kernel, by decide +kernel⟩, by decide⟩
theorem im_X11_readList : Cond.instanceMethod mX11_readList.1 ∈ ax_ws := ax_mem1 1284 (by decide +kernel) rfl
theorem sl_X11_readList : Cond.selects mX11_readList.1.cls mX11_readList.1 mX11_readList.1 ∈ ax_ws := ax_memS (n := 77) 60 (by decide +kernel) rfl
abbrev mX11_canName : ax_M := (yX11_canName, cX11_canName, 2, some (.boolean), 0, 0)
theorem cw_X11_canName : ax_CW mX11_canName 1 := ⟨ax_mem1 12 (by decide +kernel) rfl, ax_mem1 1289 (by decide +kernel) rfl, ⟨by decide +kernel, by decide +kernel, by decide +kernel⟩, by decide⟩
theorem im_X11_canName : Cond.instanceMethod mX11_canName.1 ∈ ax_ws := ax_mem1 1288 (by decide +kernel) rfl
theorem sl_X11_canName : Cond.selects mX11_canName.1.cls mX11_canName.1 mX11_canName.1 ∈ ax_ws := ax_memS (n := 77) 61 (by decide +kernel) rfl
abbrev mX11_listOf : ax_M := (yX11_listOf, cX11_listOf, 5, some (.int), 0, 0)
theorem cw_X11_listOf : ax_CW mX11_listOf 2 := ⟨ax_mem1 12 (by decide +kernel) rfl, ax_mem1 1293 (by decide +kernel) rfl, ⟨by decide +kernel, by decide +kernel, by decide +kernel⟩, by decide⟩
theorem im_X11_listOf : Cond.instanceMethod mX11_listOf.1 ∈ ax_ws := ax_mem1 1292 (by decide +kernel) rfl
theorem sl_X11_listOf : Cond.selects mX11_listOf.1.cls mX11_listOf.1 mX11_listOf.1 ∈ ax_ws := ax_memS (n := 77) 62 (by decide +kernel) rfl
abbrev mX11_partOf : ax_M := (yX11_partOf, cX11_partOf, 5, some (.int), 0, 0)
theorem cw_X11_partOf : ax_CW mX11_partOf 2 := ⟨ax_mem1 12 (by decide +kernel) rfl, ax_mem1 1297 (by decide +kernel) rfl, ⟨by decide +kernel, by decide +kernel, by decide +kernel⟩, by decide⟩
theorem im_X11_partOf : Cond.instanceMethod mX11_partOf.1 ∈ ax_ws := ax_mem1 1296 (by decide +kernel) rfl
theorem sl_X11_partOf : Cond.selects mX11_partOf.1.cls mX11_partOf.1 mX11_partOf.1 ∈ ax_ws := ax_memS (n := 77) 63 (by decide +kernel) rfl
abbrev mX11_hasPiece : ax_M := (yX11_hasPiece, cX11_hasPiece, 5, some (.boolean), 0, 0)
theorem cw_X11_hasPiece : ax_CW mX11_hasPiece 2 := ⟨ax_mem1 12 (by decide +kernel) rfl, ax_mem1 1301 (by decide +kernel) rfl, ⟨by decide +kernel, by decide +kernel, by decide +kernel⟩, by decide⟩
theorem im_X11_hasPiece : Cond.instanceMethod mX11_hasPiece.1 ∈ ax_ws := ax_mem1 1300 (by decide +kernel) rfl
theorem sl_X11_hasPiece : Cond.selects mX11_hasPiece.1.cls mX11_hasPiece.1 mX11_hasPiece.1 ∈ ax_ws := ax_memS (n := 77) 64 (by decide +kernel) rfl
abbrev mX11_readPart : ax_M := (yX11_readPart, cX11_readPart, 3, none, 0, 0)
theorem cw_X11_readPart : ax_CW mX11_readPart 1 := ⟨ax_mem1 12 (by decide +kernel) rfl, ax_mem1 1305 (by decide +kernel) rfl, ⟨by decide +kernel, by decide +kernel, by decide +kernel⟩, by decide⟩
theorem im_X11_readPart : Cond.instanceMethod mX11_readPart.1 ∈ ax_ws := ax_mem1 1304 (by decide +kernel) rfl
theorem sl_X11_readPart : Cond.selects mX11_readPart.1.cls mX11_readPart.1 mX11_readPart.1 ∈ ax_ws := ax_memS (n := 77) 65 (by decide +kernel) rfl
abbrev mX11_e : ax_M := (yX11_e, cX11_e, 4, none, 0, 0)
theorem cw_X11_e : ax_CW mX11_e 2 := ⟨ax_mem1 12 (by decide +kernel) rfl, ax_mem1 1309 (by decide +kernel) rfl, ⟨by decide +kernel, by decide +kernel, by decide +kernel⟩, by decide⟩
theorem im_X11_e : Cond.instanceMethod mX11_e.1 ∈ ax_ws := ax_mem1 1308 (by decide +kernel) rfl
theorem sl_X11_e : Cond.selects mX11_e.1.cls mX11_e.1 mX11_e.1 ∈ ax_ws := ax_memS (n := 77) 66 (by decide +kernel) rfl
abbrev mX11_pile : ax_M := (yX11_pile, cX11_pile, 3, none, 0, 0)
theorem cw_X11_pile : ax_CW mX11_pile 2 := ⟨ax_mem1 12 (by decide +kernel) rfl, ax_mem1 1313 (by decide +kernel) rfl, ⟨by decide +kernel, by decide +kernel, by decide +kernel⟩, by decide⟩
theorem im_X11_pile : Cond.instanceMethod mX11_pile.1 ∈ ax_ws := ax_mem1 1312 (by decide +kernel) rfl
theorem sl_X11_pile : Cond.selects mX11_pile.1.cls mX11_pile.1 mX11_pile.1 ∈ ax_ws := ax_memS (n := 77) 67 (by decide +kernel) rfl
abbrev mX11_behind : ax_M := (yX11_behind, cX11_behind, 3, some (.int), 0, 0)
theorem cw_X11_behind : ax_CW mX11_behind 0 := ⟨ax_mem1 12 (by decide +kernel) rfl, ax_mem1 1317 (by decide +kernel) rfl, ⟨by decide +kernel, by decide +kernel, by decide +kernel⟩, by decide⟩
theorem im_X11_behind : Cond.instanceMethod mX11_behind.1 ∈ ax_ws := ax_mem1 1316 (by decide +kernel) rfl
theorem sl_X11_behind : Cond.selects mX11_behind.1.cls mX11_behind.1 mX11_behind.1 ∈ ax_ws := ax_memS (n := 77) 68 (by decide +kernel) rfl
abbrev mX11_rankHere : ax_M := (yX11_rankHere, cX11_rankHere, 1, some (.int), 0, 0)
theorem cw_X11_rankHere : ax_CW mX11_rankHere 0 := ⟨ax_mem1 12 (by decide +kernel) rfl, ax_mem1 1321 (by decide +kernel) rfl, ⟨by decide +kernel, by decide +kernel, by decide +kernel⟩, by decide⟩
theorem im_X11_rankHere : Cond.instanceMethod mX11_rankHere.1 ∈ ax_ws := ax_mem1 1320 (by decide +kernel) rfl
theorem sl_X11_rankHere : Cond.selects mX11_rankHere.1.cls mX11_rankHere.1 mX11_rankHere.1 ∈ ax_ws := ax_memS (n := 77) 69 (by decide +kernel) rfl
abbrev mX11_step : ax_M := (yX11_step, cX11_step, 3, none, 0, 0)
theorem cw_X11_step : ax_CW mX11_step 2 := ⟨ax_mem1 12 (by decide +kernel) rfl, ax_mem1 1325 (by decide +kernel) rfl, ⟨by decide +kernel, by decide +kernel, by decide +kernel⟩, by decide⟩
theorem im_X11_step : Cond.instanceMethod mX11_step.1 ∈ ax_ws := ax_mem1 1324 (by decide +kernel) rfl
theorem sl_X11_step : Cond.selects mX11_step.1.cls mX11_step.1 mX11_step.1 ∈ ax_ws := ax_memS (n := 77) 70 (by decide +kernel) rfl
abbrev mX11_value : ax_M := (yX11_value, cX11_value, 5, some (.int), 0, 0)
theorem cw_X11_value : ax_CW mX11_value 3 := ⟨ax_mem1 12 (by decide +kernel) rfl, ax_mem1 1329 (by decide +kernel) rfl, ⟨by decide +kernel, by decide +kernel, by decide +kernel⟩, by decide⟩
theorem im_X11_value : Cond.instanceMethod mX11_value.1 ∈ ax_ws := ax_mem1 1328 (by decide +kernel) rfl
theorem sl_X11_value : Cond.selects mX11_value.1.cls mX11_value.1 mX11_value.1 ∈ ax_ws := ax_memS (n := 77) 71 (by decide +kernel) rfl
abbrev mX11_meant : ax_M := (yX11_meant, cX11_meant, 4, none, 0, 0)
theorem cw_X11_meant : ax_CW mX11_meant 2 := ⟨ax_mem1 12 (by decide +kernel) rfl, ax_mem1 1333 (by decide +kernel) rfl, ⟨by decide +kernel, by decide +kernel, by decide +kernel⟩, by decide⟩
theorem im_X11_meant : Cond.instanceMethod mX11_meant.1 ∈ ax_ws := ax_mem1 1332 (by decide +kernel) rfl
theorem sl_X11_meant : Cond.selects mX11_meant.1.cls mX11_meant.1 mX11_meant.1 ∈ ax_ws := ax_memS (n := 77) 72 (by decide +kernel) rfl
abbrev mX11_fault : ax_M := (yX11_fault, cX11_fault, 2, some (.int), 0, 0)
theorem cw_X11_fault : ax_CW mX11_fault 1 := ⟨ax_mem1 12 (by decide +kernel) rfl, ax_mem1 1337 (by decide +kernel) rfl, ⟨by decide +kernel, by decide +kernel, by decide +kernel⟩, by decide⟩
theorem im_X11_fault : Cond.instanceMethod mX11_fault.1 ∈ ax_ws := ax_mem1 1335 (by decide +kernel) rfl
theorem sl_X11_fault : Cond.selects mX11_fault.1.cls mX11_fault.1 mX11_fault.1 ∈ ax_ws := ax_mem1 1336 (by decide +kernel) rfl
abbrev mX11_grade : ax_M := (yX11_grade, cX11_grade, 5, some (.int), 0, 0)
theorem cw_X11_grade : ax_CW mX11_grade 3 := ⟨ax_mem1 12 (by decide +kernel) rfl, ax_mem1 1341 (by decide +kernel) rfl, ⟨by decide +kernel, by decide +kernel, by decide +kernel⟩, by decide⟩
theorem im_X11_grade : Cond.instanceMethod mX11_grade.1 ∈ ax_ws := ax_mem1 1339 (by decide +kernel) rfl
theorem sl_X11_grade : Cond.selects mX11_grade.1.cls mX11_grade.1 mX11_grade.1 ∈ ax_ws := ax_mem1 1340 (by decide +kernel) rfl
abbrev mX11_spot : ax_M := (yX11_spot, cX11_spot, 4, some (.int), 0, 0)
theorem cw_X11_spot : ax_CW mX11_spot 2 := ⟨ax_mem1 12 (by decide +kernel) rfl, ax_mem1 1345 (by decide +kernel) rfl, ⟨by decide +kernel, by decide +kernel, by decide +kernel⟩, by decide⟩
theorem im_X11_spot : Cond.instanceMethod mX11_spot.1 ∈ ax_ws := ax_mem1 1344 (by decide +kernel) rfl
theorem sl_X11_spot : Cond.selects mX11_spot.1.cls mX11_spot.1 mX11_spot.1 ∈ ax_ws := ax_memS (n := 77) 73 (by decide +kernel) rfl
abbrev mX11_minutesOf : ax_M := (yX11_minutesOf, cX11_minutesOf, 2, some (.int), 0, 0)
theorem cw_X11_minutesOf : ax_CW mX11_minutesOf 1 := ⟨ax_mem1 12 (by decide +kernel) rfl, ax_mem1 1349 (by decide +kernel) rfl, ⟨by decide +kernel, by decide +kernel, by decide +kernel⟩, by decide⟩
theorem im_X11_minutesOf : Cond.instanceMethod mX11_minutesOf.1 ∈ ax_ws := ax_mem1 1348 (by decide +kernel) rfl
theorem sl_X11_minutesOf : Cond.selects mX11_minutesOf.1.cls mX11_minutesOf.1 mX11_minutesOf.1 ∈ ax_ws := ax_memS (n := 77) 74 (by decide +kernel) rfl
abbrev mX11_entry : ax_M := (yX11_entry, cX11_entry, 7, some (.int), 0, 0)
theorem cw_X11_entry : ax_CW mX11_entry 6 := ⟨ax_mem1 12 (by decide +kernel) rfl, ax_mem1 1353 (by decide +kernel) rfl, ⟨by decide +kernel, by decide +kernel, by decide +kernel⟩, by decide⟩
theorem im_X11_entry : Cond.instanceMethod mX11_entry.1 ∈ ax_ws := ax_mem1 1351 (by decide +kernel) rfl
theorem sl_X11_entry : Cond.selects mX11_entry.1.cls mX11_entry.1 mX11_entry.1 ∈ ax_ws := ax_mem1 1352 (by decide +kernel) rfl
abbrev mX11_piece : ax_M := (yX11_piece, cX11_piece, 5, some (.int), 0, 0)
theorem cw_X11_piece : ax_CW mX11_piece 2 := ⟨ax_mem1 12 (by decide +kernel) rfl, ax_mem1 1357 (by decide +kernel) rfl, ⟨by decide +kernel, by decide +kernel, by decide +kernel⟩, by decide⟩
theorem im_X11_piece : Cond.instanceMethod mX11_piece.1 ∈ ax_ws := ax_mem1 1355 (by decide +kernel) rfl
theorem sl_X11_piece : Cond.selects mX11_piece.1.cls mX11_piece.1 mX11_piece.1 ∈ ax_ws := ax_mem1 1356 (by decide +kernel) rfl
abbrev mX11_isEntry : ax_M := (yX11_isEntry, cX11_isEntry, 2, some (.boolean), 0, 0)
theorem cw_X11_isEntry : ax_CW mX11_isEntry 1 := ⟨ax_mem1 12 (by decide +kernel) rfl, ax_mem1 1361 (by decide +kernel) rfl, ⟨by decide +kernel, by decide +kernel, by decide +kernel⟩, by decide⟩
theorem im_X11_isEntry : Cond.instanceMethod mX11_isEntry.1 ∈ ax_ws := ax_mem1 1360 (by decide +kernel) rfl
theorem sl_X11_isEntry : Cond.selects mX11_isEntry.1.cls mX11_isEntry.1 mX11_isEntry.1 ∈ ax_ws := ax_memS (n := 77) 75 (by decide +kernel) rfl
abbrev mX11_isName : ax_M := (yX11_isName, cX11_isName, 5, some (.boolean), 0, 0)
theorem cw_X11_isName : ax_CW mX11_isName 1 := ⟨ax_mem1 12 (by decide +kernel) rfl, ax_mem1 1364 (by decide +kernel) rfl, ⟨by decide +kernel, by decide +kernel, by decide +kernel⟩, by decide⟩
theorem sm_X11_isName : Cond.static mX11_isName.1 ∈ ax_ws := ax_mem1 1363 (by decide +kernel) rfl
abbrev mX11_judge : ax_M := (yX11_judge, cX11_judge, 4, some (.int), 0, 0)
theorem cw_X11_judge : ax_CW mX11_judge 1 := ⟨ax_mem1 12 (by decide +kernel) rfl, ax_mem1 1369 (by decide +kernel) rfl, ⟨by decide +kernel, by decide +kernel, by decide +kernel⟩, by decide⟩
theorem im_X11_judge : Cond.instanceMethod mX11_judge.1 ∈ ax_ws := ax_mem1 1367 (by decide +kernel) rfl
theorem sl_X11_judge : Cond.selects mX11_judge.1.cls mX11_judge.1 mX11_judge.1 ∈ ax_ws := ax_mem1 1368 (by decide +kernel) rfl
abbrev mX11_spotOf : ax_M := (yX11_spotOf, cX11_spotOf, 2, some (.int), 0, 0)
theorem cw_X11_spotOf : ax_CW mX11_spotOf 1 := ⟨ax_mem1 12 (by decide +kernel) rfl, ax_mem1 1373 (by decide +kernel) rfl, ⟨by decide +kernel, by decide +kernel, by decide +kernel⟩, by decide⟩
theorem im_X11_spotOf : Cond.instanceMethod mX11_spotOf.1 ∈ ax_ws := ax_mem1 1372 (by decide +kernel) rfl
theorem sl_X11_spotOf : Cond.selects mX11_spotOf.1.cls mX11_spotOf.1 mX11_spotOf.1 ∈ ax_ws := ax_memS (n := 77) 76 (by decide +kernel) rfl
abbrev mX11_work : ax_M := (yX11_work, cX11_work, 9, some (.int), 0, 0)
theorem cw_X11_work : ax_CW mX11_work 4 := ⟨ax_mem1 12 (by decide +kernel) rfl, ax_mem1 1377 (by decide +kernel) rfl, ⟨by decide +kernel, by decide +kernel, by decide +kernel⟩, by decide⟩
theorem im_X11_work : Cond.instanceMethod mX11_work.1 ∈ ax_ws := ax_mem1 1376 (by decide +kernel) rfl
theorem sl_X11_work : Cond.selects mX11_work.1.cls mX11_work.1 mX11_work.1 ∈ ax_ws := ax_memS (n := 77) 77 (by decide +kernel) rfl
abbrev mX11_leaf : ax_M := (yX11_leaf, cX11_leaf, 5, some (.int), 0, 0)
theorem cw_X11_leaf : ax_CW mX11_leaf 4 := ⟨ax_mem1 12 (by decide +kernel) rfl, ax_mem1 1381 (by decide +kernel) rfl, ⟨by decide +kernel, by decide +kernel, by decide +kernel⟩, by decide⟩
theorem im_X11_leaf : Cond.instanceMethod mX11_leaf.1 ∈ ax_ws := ax_mem1 1380 (by decide +kernel) rfl
theorem sl_X11_leaf : Cond.selects mX11_leaf.1.cls mX11_leaf.1 mX11_leaf.1 ∈ ax_ws := ax_memS (n := 77) 78 (by decide +kernel) rfl
abbrev mX11_inList : ax_M := (yX11_inList, cX11_inList, 5, some (.int), 0, 0)
theorem cw_X11_inList : ax_CW mX11_inList 2 := ⟨ax_mem1 12 (by decide +kernel) rfl, ax_mem1 1385 (by decide +kernel) rfl, ⟨by decide +kernel, by decide +kernel, by decide +kernel⟩, by decide⟩
theorem im_X11_inList : Cond.instanceMethod mX11_inList.1 ∈ ax_ws := ax_mem1 1384 (by decide +kernel) rfl
theorem sl_X11_inList : Cond.selects mX11_inList.1.cls mX11_inList.1 mX11_inList.1 ∈ ax_ws := ax_memS (n := 77) 79 (by decide +kernel) rfl
abbrev mX11_inNone : ax_M := (yX11_inNone, cX11_inNone, 7, some (.int), 0, 0)
theorem cw_X11_inNone : ax_CW mX11_inNone 2 := ⟨ax_mem1 12 (by decide +kernel) rfl, ax_mem1 1389 (by decide +kernel) rfl, ⟨by decide +kernel, by decide +kernel, by decide +kernel⟩, by decide⟩
theorem im_X11_inNone : Cond.instanceMethod mX11_inNone.1 ∈ ax_ws := ax_mem1 1388 (by decide +kernel) rfl
theorem sl_X11_inNone : Cond.selects mX11_inNone.1.cls mX11_inNone.1 mX11_inNone.1 ∈ ax_ws := ax_memS (n := 77) 80 (by decide +kernel) rfl
abbrev mX11_total : ax_M := (yX11_total, cX11_total, 4, some (.int), 0, 0)
theorem cw_X11_total : ax_CW mX11_total 1 := ⟨ax_mem1 12 (by decide +kernel) rfl, ax_mem1 1393 (by decide +kernel) rfl, ⟨by decide +kernel, by decide +kernel, by decide +kernel⟩, by decide⟩
theorem im_X11_total : Cond.instanceMethod mX11_total.1 ∈ ax_ws := ax_mem1 1392 (by decide +kernel) rfl
theorem sl_X11_total : Cond.selects mX11_total.1.cls mX11_total.1 mX11_total.1 ∈ ax_ws := ax_memS (n := 77) 81 (by decide +kernel) rfl
abbrev mX11_leastMark : ax_M := (yX11_leastMark, cX11_leastMark, 4, some (.int), 0, 0)
theorem cw_X11_leastMark : ax_CW mX11_leastMark 1 := ⟨ax_mem1 12 (by decide +kernel) rfl, ax_mem1 1397 (by decide +kernel) rfl, ⟨by decide +kernel, by decide +kernel, by decide +kernel⟩, by decide⟩
theorem im_X11_leastMark : Cond.instanceMethod mX11_leastMark.1 ∈ ax_ws := ax_mem1 1396 (by decide +kernel) rfl
theorem sl_X11_leastMark : Cond.selects mX11_leastMark.1.cls mX11_leastMark.1 mX11_leastMark.1 ∈ ax_ws := ax_memS (n := 77) 82 (by decide +kernel) rfl
abbrev mX11_two : ax_M := (yX11_two, cX11_two, 3, some (.int), 0, 0)
theorem cw_X11_two : ax_CW mX11_two 3 := ⟨ax_mem1 12 (by decide +kernel) rfl, ax_mem1 1400 (by decide +kernel) rfl, ⟨by decide +kernel, by decide +kernel, by decide +kernel⟩, by decide⟩
theorem sm_X11_two : Cond.static mX11_two.1 ∈ ax_ws := ax_mem1 1399 (by decide +kernel) rfl
abbrev mX11_centre : ax_M := (yX11_centre, cX11_centre, 1, some (.int), 0, 0)
theorem cw_X11_centre : ax_CW mX11_centre 0 := ⟨ax_mem1 12 (by decide +kernel) rfl, ax_mem1 1404 (by decide +kernel) rfl, ⟨by decide +kernel, by decide +kernel, by decide +kernel⟩, by decide⟩
theorem im_X11_centre : Cond.instanceMethod mX11_centre.1 ∈ ax_ws := ax_mem1 1402 (by decide +kernel) rfl
theorem sl_X11_centre : Cond.selects mX11_centre.1.cls mX11_centre.1 mX11_centre.1 ∈ ax_ws := ax_mem1 1403 (by decide +kernel) rfl
abbrev mX11_way : ax_M := (yX11_way, cX11_way, 4, some (.boolean), 0, 0)
theorem cw_X11_way : ax_CW mX11_way 3 := ⟨ax_mem1 12 (by decide +kernel) rfl, ax_mem1 1408 (by decide +kernel) rfl, ⟨by decide +kernel, by decide +kernel, by decide +kernel⟩, by decide⟩
theorem im_X11_way : Cond.instanceMethod mX11_way.1 ∈ ax_ws := ax_mem1 1406 (by decide +kernel) rfl
theorem sl_X11_way : Cond.selects mX11_way.1.cls mX11_way.1 mX11_way.1 ∈ ax_ws := ax_mem1 1407 (by decide +kernel) rfl
abbrev mX11_isCentre : ax_M := (yX11_isCentre, cX11_isCentre, 2, some (.boolean), 0, 0)
theorem cw_X11_isCentre : ax_CW mX11_isCentre 1 := ⟨ax_mem1 12 (by decide +kernel) rfl, ax_mem1 1412 (by decide +kernel) rfl, ⟨by decide +kernel, by decide +kernel, by decide +kernel⟩, by decide⟩
theorem im_X11_isCentre : Cond.instanceMethod mX11_isCentre.1 ∈ ax_ws := ax_mem1 1411 (by decide +kernel) rfl
theorem sl_X11_isCentre : Cond.selects mX11_isCentre.1.cls mX11_isCentre.1 mX11_isCentre.1 ∈ ax_ws := ax_memS (n := 77) 83 (by decide +kernel) rfl
abbrev mX11_examiner : ax_M := (yX11_examiner, cX11_examiner, 3, some (.int), 0, 0)
theorem cw_X11_examiner : ax_CW mX11_examiner 2 := ⟨ax_mem1 12 (by decide +kernel) rfl, ax_mem1 1416 (by decide +kernel) rfl, ⟨by decide +kernel, by decide +kernel, by decide +kernel⟩, by decide⟩
theorem im_X11_examiner : Cond.instanceMethod mX11_examiner.1 ∈ ax_ws := ax_mem1 1414 (by decide +kernel) rfl
theorem sl_X11_examiner : Cond.selects mX11_examiner.1.cls mX11_examiner.1 mX11_examiner.1 ∈ ax_ws := ax_mem1 1415 (by decide +kernel) rfl
abbrev mX11_session : ax_M := (yX11_session, cX11_session, 3, some (.int), 0, 0)
theorem cw_X11_session : ax_CW mX11_session 2 := ⟨ax_mem1 12 (by decide +kernel) rfl, ax_mem1 1420 (by decide +kernel) rfl, ⟨by decide +kernel, by decide +kernel, by decide +kernel⟩, by decide⟩
theorem im_X11_session : Cond.instanceMethod mX11_session.1 ∈ ax_ws := ax_mem1 1418 (by decide +kernel) rfl
theorem sl_X11_session : Cond.selects mX11_session.1.cls mX11_session.1 mX11_session.1 ∈ ax_ws := ax_mem1 1419 (by decide +kernel) rfl
abbrev mX11_put : ax_M := (yX11_put, cX11_put, 3, some (.boolean), 0, 0)
theorem cw_X11_put : ax_CW mX11_put 2 := ⟨ax_mem1 12 (by decide +kernel) rfl, ax_mem1 1424 (by decide +kernel) rfl, ⟨by decide +kernel, by decide +kernel, by decide +kernel⟩, by decide⟩
theorem im_X11_put : Cond.instanceMethod mX11_put.1 ∈ ax_ws := ax_mem1 1422 (by decide +kernel) rfl
theorem sl_X11_put : Cond.selects mX11_put.1.cls mX11_put.1 mX11_put.1 ∈ ax_ws := ax_mem1 1423 (by decide +kernel) rfl
abbrev mX11_isSession : ax_M := (yX11_isSession, cX11_isSession, 2, some (.boolean), 0, 0)
theorem cw_X11_isSession : ax_CW mX11_isSession 1 := ⟨ax_mem1 12 (by decide +kernel) rfl, ax_mem1 1428 (by decide +kernel) rfl, ⟨by decide +kernel, by decide +kernel, by decide +kernel⟩, by decide⟩
theorem im_X11_isSession : Cond.instanceMethod mX11_isSession.1 ∈ ax_ws := ax_mem1 1427 (by decide +kernel) rfl
theorem sl_X11_isSession : Cond.selects mX11_isSession.1.cls mX11_isSession.1 mX11_isSession.1 ∈ ax_ws := ax_memS (n := 77) 84 (by decide +kernel) rfl
abbrev mX11_minutesIn : ax_M := (yX11_minutesIn, cX11_minutesIn, 5, some (.int), 0, 0)
theorem cw_X11_minutesIn : ax_CW mX11_minutesIn 2 := ⟨ax_mem1 12 (by decide +kernel) rfl, ax_mem1 1432 (by decide +kernel) rfl, ⟨by decide +kernel, by decide +kernel, by decide +kernel⟩, by decide⟩
theorem im_X11_minutesIn : Cond.instanceMethod mX11_minutesIn.1 ∈ ax_ws := ax_mem1 1431 (by decide +kernel) rfl
theorem sl_X11_minutesIn : Cond.selects mX11_minutesIn.1.cls mX11_minutesIn.1 mX11_minutesIn.1 ∈ ax_ws := ax_memS (n := 77) 85 (by decide +kernel) rfl
abbrev mX11_of : ax_M := (yX11_of, cX11_of, 5, some (.int), 0, 0)
theorem cw_X11_of : ax_CW mX11_of 2 := ⟨ax_mem1 12 (by decide +kernel) rfl, ax_mem1 1436 (by decide +kernel) rfl, ⟨by decide +kernel, by decide +kernel, by decide +kernel⟩, by decide⟩
theorem im_X11_of : Cond.instanceMethod mX11_of.1 ∈ ax_ws := ax_mem1 1434 (by decide +kernel) rfl
theorem sl_X11_of : Cond.selects mX11_of.1.cls mX11_of.1 mX11_of.1 ∈ ax_ws := ax_mem1 1435 (by decide +kernel) rfl
abbrev mX11_may : ax_M := (yX11_may, cX11_may, 3, some (.int), 0, 0)
theorem cw_X11_may : ax_CW mX11_may 2 := ⟨ax_mem1 12 (by decide +kernel) rfl, ax_mem1 1440 (by decide +kernel) rfl, ⟨by decide +kernel, by decide +kernel, by decide +kernel⟩, by decide⟩
theorem im_X11_may : Cond.instanceMethod mX11_may.1 ∈ ax_ws := ax_mem1 1438 (by decide +kernel) rfl
theorem sl_X11_may : Cond.selects mX11_may.1.cls mX11_may.1 mX11_may.1 ∈ ax_ws := ax_mem1 1439 (by decide +kernel) rfl
abbrev mX11_isExaminer : ax_M := (yX11_isExaminer, cX11_isExaminer, 2, some (.boolean), 0, 0)
theorem cw_X11_isExaminer : ax_CW mX11_isExaminer 1 := ⟨ax_mem1 12 (by decide +kernel) rfl, ax_mem1 1444 (by decide +kernel) rfl, ⟨by decide +kernel, by decide +kernel, by decide +kernel⟩, by decide⟩
theorem im_X11_isExaminer : Cond.instanceMethod mX11_isExaminer.1 ∈ ax_ws := ax_mem1 1443 (by decide +kernel) rfl
theorem sl_X11_isExaminer : Cond.selects mX11_isExaminer.1.cls mX11_isExaminer.1 mX11_isExaminer.1 ∈ ax_ws := ax_memS (n := 77) 86 (by decide +kernel) rfl
abbrev mX11_mayTake : ax_M := (yX11_mayTake, cX11_mayTake, 4, some (.boolean), 0, 0)
theorem cw_X11_mayTake : ax_CW mX11_mayTake 2 := ⟨ax_mem1 12 (by decide +kernel) rfl, ax_mem1 1448 (by decide +kernel) rfl, ⟨by decide +kernel, by decide +kernel, by decide +kernel⟩, by decide⟩
theorem im_X11_mayTake : Cond.instanceMethod mX11_mayTake.1 ∈ ax_ws := ax_mem1 1447 (by decide +kernel) rfl
theorem sl_X11_mayTake : Cond.selects mX11_mayTake.1.cls mX11_mayTake.1 mX11_mayTake.1 ∈ ax_ws := ax_memS (n := 77) 87 (by decide +kernel) rfl
abbrev mX11_hasHeard : ax_M := (yX11_hasHeard, cX11_hasHeard, 4, some (.boolean), 0, 0)
theorem cw_X11_hasHeard : ax_CW mX11_hasHeard 2 := ⟨ax_mem1 12 (by decide +kernel) rfl, ax_mem1 1452 (by decide +kernel) rfl, ⟨by decide +kernel, by decide +kernel, by decide +kernel⟩, by decide⟩
theorem im_X11_hasHeard : Cond.instanceMethod mX11_hasHeard.1 ∈ ax_ws := ax_mem1 1451 (by decide +kernel) rfl
theorem sl_X11_hasHeard : Cond.selects mX11_hasHeard.1.cls mX11_hasHeard.1 mX11_hasHeard.1 ∈ ax_ws := ax_memS (n := 77) 88 (by decide +kernel) rfl
abbrev mX11_stuck : ax_M := (yX11_stuck, cX11_stuck, 4, some (.int), 0, 0)
theorem cw_X11_stuck : ax_CW mX11_stuck 0 := ⟨ax_mem1 12 (by decide +kernel) rfl, ax_mem1 1456 (by decide +kernel) rfl, ⟨by decide +kernel, by decide +kernel, by decide +kernel⟩, by decide⟩
theorem im_X11_stuck : Cond.instanceMethod mX11_stuck.1 ∈ ax_ws := ax_mem1 1454 (by decide +kernel) rfl
theorem sl_X11_stuck : Cond.selects mX11_stuck.1.cls mX11_stuck.1 mX11_stuck.1 ∈ ax_ws := ax_mem1 1455 (by decide +kernel) rfl
abbrev mX11_tour : ax_M := (yX11_tour, cX11_tour, 3, some (.int), 0, 0)
theorem cw_X11_tour : ax_CW mX11_tour 0 := ⟨ax_mem1 12 (by decide +kernel) rfl, ax_mem1 1460 (by decide +kernel) rfl, ⟨by decide +kernel, by decide +kernel, by decide +kernel⟩, by decide⟩
theorem im_X11_tour : Cond.instanceMethod mX11_tour.1 ∈ ax_ws := ax_mem1 1458 (by decide +kernel) rfl
theorem sl_X11_tour : Cond.selects mX11_tour.1.cls mX11_tour.1 mX11_tour.1 ∈ ax_ws := ax_mem1 1459 (by decide +kernel) rfl
abbrev mX11_travel : ax_M := (yX11_travel, cX11_travel, 7, some (.int), 0, 0)
theorem cw_X11_travel : ax_CW mX11_travel 2 := ⟨ax_mem1 12 (by decide +kernel) rfl, ax_mem1 1464 (by decide +kernel) rfl, ⟨by decide +kernel, by decide +kernel, by decide +kernel⟩, by decide⟩
theorem im_X11_travel : Cond.instanceMethod mX11_travel.1 ∈ ax_ws := ax_mem1 1463 (by decide +kernel) rfl
theorem sl_X11_travel : Cond.selects mX11_travel.1.cls mX11_travel.1 mX11_travel.1 ∈ ax_ws := ax_memS (n := 77) 89 (by decide +kernel) rfl
abbrev mX11_nextOf : ax_M := (yX11_nextOf, cX11_nextOf, 5, some (.int), 0, 0)
theorem cw_X11_nextOf : ax_CW mX11_nextOf 2 := ⟨ax_mem1 12 (by decide +kernel) rfl, ax_mem1 1469 (by decide +kernel) rfl, ⟨by decide +kernel, by decide +kernel, by decide +kernel⟩, by decide⟩
theorem im_X11_nextOf : Cond.instanceMethod mX11_nextOf.1 ∈ ax_ws := ax_mem1 1468 (by decide +kernel) rfl
theorem sl_X11_nextOf : Cond.selects mX11_nextOf.1.cls mX11_nextOf.1 mX11_nextOf.1 ∈ ax_ws := ax_memS (n := 77) 90 (by decide +kernel) rfl
abbrev mX11_solve : ax_M := (yX11_solve, cX11_solve, 7, some (.int), 0, 0)
theorem cw_X11_solve : ax_CW mX11_solve 0 := ⟨ax_mem1 12 (by decide +kernel) rfl, ax_mem1 1473 (by decide +kernel) rfl, ⟨by decide +kernel, by decide +kernel, by decide +kernel⟩, by decide⟩
theorem im_X11_solve : Cond.instanceMethod mX11_solve.1 ∈ ax_ws := ax_mem1 1472 (by decide +kernel) rfl
theorem sl_X11_solve : Cond.selects mX11_solve.1.cls mX11_solve.1 mX11_solve.1 ∈ ax_ws := ax_memS (n := 77) 91 (by decide +kernel) rfl
abbrev mX11_agrees : ax_M := (yX11_agrees, cX11_agrees, 4, some (.boolean), 0, 0)
theorem cw_X11_agrees : ax_CW mX11_agrees 2 := ⟨ax_mem1 12 (by decide +kernel) rfl, ax_mem1 1477 (by decide +kernel) rfl, ⟨by decide +kernel, by decide +kernel, by decide +kernel⟩, by decide⟩
theorem im_X11_agrees : Cond.instanceMethod mX11_agrees.1 ∈ ax_ws := ax_mem1 1476 (by decide +kernel) rfl
theorem sl_X11_agrees : Cond.selects mX11_agrees.1.cls mX11_agrees.1 mX11_agrees.1 ∈ ax_ws := ax_memS (n := 77) 92 (by decide +kernel) rfl
abbrev mX11_toured : ax_M := (yX11_toured, cX11_toured, 2, some (.int), 0, 0)
theorem cw_X11_toured : ax_CW mX11_toured 1 := ⟨ax_mem1 12 (by decide +kernel) rfl, ax_mem1 1481 (by decide +kernel) rfl, ⟨by decide +kernel, by decide +kernel, by decide +kernel⟩, by decide⟩
theorem im_X11_toured : Cond.instanceMethod mX11_toured.1 ∈ ax_ws := ax_mem1 1479 (by decide +kernel) rfl
theorem sl_X11_toured : Cond.selects mX11_toured.1.cls mX11_toured.1 mX11_toured.1 ∈ ax_ws := ax_mem1 1480 (by decide +kernel) rfl
abbrev mX11_later : ax_M := (yX11_later, cX11_later, 2, some (.int), 0, 0)
theorem cw_X11_later : ax_CW mX11_later 1 := ⟨ax_mem1 12 (by decide +kernel) rfl, ax_mem1 1485 (by decide +kernel) rfl, ⟨by decide +kernel, by decide +kernel, by decide +kernel⟩, by decide⟩
theorem im_X11_later : Cond.instanceMethod mX11_later.1 ∈ ax_ws := ax_mem1 1483 (by decide +kernel) rfl
theorem sl_X11_later : Cond.selects mX11_later.1.cls mX11_later.1 mX11_later.1 ∈ ax_ws := ax_mem1 1484 (by decide +kernel) rfl
abbrev mX11_mark : ax_M := (yX11_mark, cX11_mark, 5, some (.int), 0, 0)
theorem cw_X11_mark : ax_CW mX11_mark 4 := ⟨ax_mem1 12 (by decide +kernel) rfl, ax_mem1 1490 (by decide +kernel) rfl, ⟨by decide +kernel, by decide +kernel, by decide +kernel⟩, by decide⟩
theorem im_X11_mark : Cond.instanceMethod mX11_mark.1 ∈ ax_ws := ax_mem1 1488 (by decide +kernel) rfl
theorem sl_X11_mark : Cond.selects mX11_mark.1.cls mX11_mark.1 mX11_mark.1 ∈ ax_ws := ax_mem1 1489 (by decide +kernel) rfl
abbrev mX11_tell : ax_M := (yX11_tell, cX11_tell, 6, some (.int), 0, 0)
theorem cw_X11_tell : ax_CW mX11_tell 4 := ⟨ax_mem1 12 (by decide +kernel) rfl, ax_mem1 1494 (by decide +kernel) rfl, ⟨by decide +kernel, by decide +kernel, by decide +kernel⟩, by decide⟩
theorem im_X11_tell : Cond.instanceMethod mX11_tell.1 ∈ ax_ws := ax_mem1 1493 (by decide +kernel) rfl
theorem sl_X11_tell : Cond.selects mX11_tell.1.cls mX11_tell.1 mX11_tell.1 ∈ ax_ws := ax_memS (n := 77) 93 (by decide +kernel) rfl
abbrev mX11_appeal : ax_M := (yX11_appeal, cX11_appeal, 4, some (.int), 0, 0)
theorem cw_X11_appeal : ax_CW mX11_appeal 3 := ⟨ax_mem1 12 (by decide +kernel) rfl, ax_mem1 1498 (by decide +kernel) rfl, ⟨by decide +kernel, by decide +kernel, by decide +kernel⟩, by decide⟩
theorem im_X11_appeal : Cond.instanceMethod mX11_appeal.1 ∈ ax_ws := ax_mem1 1496 (by decide +kernel) rfl
theorem sl_X11_appeal : Cond.selects mX11_appeal.1.cls mX11_appeal.1 mX11_appeal.1 ∈ ax_ws := ax_mem1 1497 (by decide +kernel) rfl
abbrev mX11_known : ax_M := (yX11_known, cX11_known, 6, some (.int), 0, 0)
theorem cw_X11_known : ax_CW mX11_known 3 := ⟨ax_mem1 12 (by decide +kernel) rfl, ax_mem1 1502 (by decide +kernel) rfl, ⟨by decide +kernel, by decide +kernel, by decide +kernel⟩, by decide⟩
theorem im_X11_known : Cond.instanceMethod mX11_known.1 ∈ ax_ws := ax_mem1 1500 (by decide +kernel) rfl
theorem sl_X11_known : Cond.selects mX11_known.1.cls mX11_known.1 mX11_known.1 ∈ ax_ws := ax_mem1 1501 (by decide +kernel) rfl
abbrev mX11_lastOf : ax_M := (yX11_lastOf, cX11_lastOf, 7, some (.int), 0, 0)
theorem cw_X11_lastOf : ax_CW mX11_lastOf 4 := ⟨ax_mem1 12 (by decide +kernel) rfl, ax_mem1 1506 (by decide +kernel) rfl, ⟨by decide +kernel, by decide +kernel, by decide +kernel⟩, by decide⟩
theorem im_X11_lastOf : Cond.instanceMethod mX11_lastOf.1 ∈ ax_ws := ax_mem1 1505 (by decide +kernel) rfl
theorem sl_X11_lastOf : Cond.selects mX11_lastOf.1.cls mX11_lastOf.1 mX11_lastOf.1 ∈ ax_ws := ax_memS (n := 77) 94 (by decide +kernel) rfl
abbrev mX11_isKnown : ax_M := (yX11_isKnown, cX11_isKnown, 3, some (.boolean), 0, 0)
theorem cw_X11_isKnown : ax_CW mX11_isKnown 2 := ⟨ax_mem1 12 (by decide +kernel) rfl, ax_mem1 1510 (by decide +kernel) rfl, ⟨by decide +kernel, by decide +kernel, by decide +kernel⟩, by decide⟩
theorem im_X11_isKnown : Cond.instanceMethod mX11_isKnown.1 ∈ ax_ws := ax_mem1 1509 (by decide +kernel) rfl
theorem sl_X11_isKnown : Cond.selects mX11_isKnown.1.cls mX11_isKnown.1 mX11_isKnown.1 ∈ ax_ws := ax_memS (n := 77) 95 (by decide +kernel) rfl
abbrev mX11_main : ax_M := (yX11_main, cX11_main, 4, some (.int), 0, 0)
theorem cw_X11_main : ax_CW mX11_main 2 := ⟨ax_mem1 12 (by decide +kernel) rfl, ax_mem1 1514 (by decide +kernel) rfl, ⟨by decide +kernel, by decide +kernel, by decide +kernel⟩, by decide⟩
theorem im_X11_main : Cond.instanceMethod mX11_main.1 ∈ ax_ws := ax_mem1 1512 (by decide +kernel) rfl
theorem sl_X11_main : Cond.selects mX11_main.1.cls mX11_main.1 mX11_main.1 ∈ ax_ws := ax_mem1 1513 (by decide +kernel) rfl
abbrev mX11_untell : ax_M := (yX11_untell, cX11_untell, 2, some (.boolean), 0, 0)
theorem cw_X11_untell : ax_CW mX11_untell 1 := ⟨ax_mem1 12 (by decide +kernel) rfl, ax_mem1 1518 (by decide +kernel) rfl, ⟨by decide +kernel, by decide +kernel, by decide +kernel⟩, by decide⟩
theorem im_X11_untell : Cond.instanceMethod mX11_untell.1 ∈ ax_ws := ax_mem1 1516 (by decide +kernel) rfl
theorem sl_X11_untell : Cond.selects mX11_untell.1.cls mX11_untell.1 mX11_untell.1 ∈ ax_ws := ax_mem1 1517 (by decide +kernel) rfl
abbrev mX11_result : ax_M := (yX11_result, cX11_result, 5, some (.int), 0, 0)
theorem cw_X11_result : ax_CW mX11_result 2 := ⟨ax_mem1 12 (by decide +kernel) rfl, ax_mem1 1524 (by decide +kernel) rfl, ⟨by decide +kernel, by decide +kernel, by decide +kernel⟩, by decide⟩
theorem im_X11_result : Cond.instanceMethod mX11_result.1 ∈ ax_ws := ax_mem1 1522 (by decide +kernel) rfl
theorem sl_X11_result : Cond.selects mX11_result.1.cls mX11_result.1 mX11_result.1 ∈ ax_ws := ax_mem1 1523 (by decide +kernel) rfl
abbrev mX11_hardness : ax_M := (yX11_hardness, cX11_hardness, 8, some (.int), 0, 0)
theorem cw_X11_hardness : ax_CW mX11_hardness 1 := ⟨ax_mem1 12 (by decide +kernel) rfl, ax_mem1 1529 (by decide +kernel) rfl, ⟨by decide +kernel, by decide +kernel, by decide +kernel⟩, by decide⟩
theorem im_X11_hardness : Cond.instanceMethod mX11_hardness.1 ∈ ax_ws := ax_mem1 1527 (by decide +kernel) rfl
theorem sl_X11_hardness : Cond.selects mX11_hardness.1.cls mX11_hardness.1 mX11_hardness.1 ∈ ax_ws := ax_mem1 1528 (by decide +kernel) rfl
abbrev mX11_certify : ax_M := (yX11_certify, cX11_certify, 4, some (.int), 0, 0)
theorem cw_X11_certify : ax_CW mX11_certify 1 := ⟨ax_mem1 12 (by decide +kernel) rfl, ax_mem1 1533 (by decide +kernel) rfl, ⟨by decide +kernel, by decide +kernel, by decide +kernel⟩, by decide⟩
theorem im_X11_certify : Cond.instanceMethod mX11_certify.1 ∈ ax_ws := ax_mem1 1531 (by decide +kernel) rfl
theorem sl_X11_certify : Cond.selects mX11_certify.1.cls mX11_certify.1 mX11_certify.1 ∈ ax_ws := ax_mem1 1532 (by decide +kernel) rfl
abbrev mX11_doesHold : ax_M := (yX11_doesHold, cX11_doesHold, 3, some (.boolean), 0, 0)
theorem cw_X11_doesHold : ax_CW mX11_doesHold 2 := ⟨ax_mem1 12 (by decide +kernel) rfl, ax_mem1 1538 (by decide +kernel) rfl, ⟨by decide +kernel, by decide +kernel, by decide +kernel⟩, by decide⟩
theorem im_X11_doesHold : Cond.instanceMethod mX11_doesHold.1 ∈ ax_ws := ax_mem1 1537 (by decide +kernel) rfl
theorem sl_X11_doesHold : Cond.selects mX11_doesHold.1.cls mX11_doesHold.1 mX11_doesHold.1 ∈ ax_ws := ax_memS (n := 77) 96 (by decide +kernel) rfl
abbrev mX11_certificate : ax_M := (yX11_certificate, cX11_certificate, 3, some (.int), 0, 0)
theorem cw_X11_certificate : ax_CW mX11_certificate 2 := ⟨ax_mem1 12 (by decide +kernel) rfl, ax_mem1 1542 (by decide +kernel) rfl, ⟨by decide +kernel, by decide +kernel, by decide +kernel⟩, by decide⟩
theorem im_X11_certificate : Cond.instanceMethod mX11_certificate.1 ∈ ax_ws := ax_mem1 1540 (by decide +kernel) rfl
theorem sl_X11_certificate : Cond.selects mX11_certificate.1.cls mX11_certificate.1 mX11_certificate.1 ∈ ax_ws := ax_mem1 1541 (by decide +kernel) rfl
abbrev mX11_holds : ax_M := (yX11_holds, cX11_holds, 3, some (.int), 0, 0)
theorem cw_X11_holds : ax_CW mX11_holds 2 := ⟨ax_mem1 12 (by decide +kernel) rfl, ax_mem1 1546 (by decide +kernel) rfl, ⟨by decide +kernel, by decide +kernel, by decide +kernel⟩, by decide⟩
theorem im_X11_holds : Cond.instanceMethod mX11_holds.1 ∈ ax_ws := ax_mem1 1544 (by decide +kernel) rfl
theorem sl_X11_holds : Cond.selects mX11_holds.1.cls mX11_holds.1 mX11_holds.1 ∈ ax_ws := ax_mem1 1545 (by decide +kernel) rfl
abbrev mX11_about : ax_M := (yX11_about, cX11_about, 2, some (.int), 0, 0)
theorem cw_X11_about : ax_CW mX11_about 1 := ⟨ax_mem1 12 (by decide +kernel) rfl, ax_mem1 1550 (by decide +kernel) rfl, ⟨by decide +kernel, by decide +kernel, by decide +kernel⟩, by decide⟩
theorem im_X11_about : Cond.instanceMethod mX11_about.1 ∈ ax_ws := ax_mem1 1548 (by decide +kernel) rfl
theorem sl_X11_about : Cond.selects mX11_about.1.cls mX11_about.1 mX11_about.1 ∈ ax_ws := ax_mem1 1549 (by decide +kernel) rfl
abbrev mX11_feed : ax_M := (yX11_feed, cX11_feed, 8, some (.int), 0, 0)
theorem cw_X11_feed : ax_CW mX11_feed 5 := ⟨ax_mem1 12 (by decide +kernel) rfl, ax_mem1 1554 (by decide +kernel) rfl, ⟨by decide +kernel, by decide +kernel, by decide +kernel⟩, by decide⟩
theorem im_X11_feed : Cond.instanceMethod mX11_feed.1 ∈ ax_ws := ax_mem1 1552 (by decide +kernel) rfl
theorem sl_X11_feed : Cond.selects mX11_feed.1.cls mX11_feed.1 mX11_feed.1 ∈ ax_ws := ax_mem1 1553 (by decide +kernel) rfl
abbrev mX11_end : ax_M := (yX11_end, cX11_end, 2, some (.int), 0, 0)
theorem cw_X11_end : ax_CW mX11_end 1 := ⟨ax_mem1 12 (by decide +kernel) rfl, ax_mem1 1558 (by decide +kernel) rfl, ⟨by decide +kernel, by decide +kernel, by decide +kernel⟩, by decide⟩
theorem im_X11_end : Cond.instanceMethod mX11_end.1 ∈ ax_ws := ax_mem1 1556 (by decide +kernel) rfl
theorem sl_X11_end : Cond.selects mX11_end.1.cls mX11_end.1 mX11_end.1 ∈ ax_ws := ax_mem1 1557 (by decide +kernel) rfl
theorem im_obj : Cond.instanceMethod Lib.objectInit ∈ ax_ws := ax_mem1 20 (by decide +kernel) rfl
theorem cd_obj : Cond.code Lib.objectInit ⟨#[0xb1]⟩ 1 none ∈ ax_ws := ax_mem1 21 (by decide +kernel) rfl
theorem lRX10_3 : Cond.methodLink RX10 3 Lib.objectInit ∈ ax_ws := ax_mem1 19 (by decide +kernel) rfl
theorem lRX10_45 : Cond.methodLink RX10 45 mX7_init.1 ∈ ax_ws := ax_mem1 279 (by decide +kernel) rfl
theorem lRX10_74 : Cond.methodLink RX10 74 mX9_append.1 ∈ ax_ws := ax_mem1 403 (by decide +kernel) rfl
theorem lRX10_78 : Cond.methodLink RX10 78 mX10_isTerm.1 ∈ ax_ws := ax_mem1 415 (by decide +kernel) rfl
theorem lRX10_82 : Cond.methodLink RX10 82 mX6_read.1 ∈ ax_ws := ax_mem1 418 (by decide +kernel) rfl
theorem lRX10_88 : Cond.methodLink RX10 88 mX6_exchange.1 ∈ ax_ws := ax_mem1 597 (by decide +kernel) rfl
theorem lRX10_92 : Cond.methodLink RX10 92 mX10_gradesOf.1 ∈ ax_ws := ax_mem1 601 (by decide +kernel) rfl
theorem lRX10_99 : Cond.methodLink RX10 99 mX10_findGrade.1 ∈ ax_ws := ax_mem1 613 (by decide +kernel) rfl
theorem lRX10_118 : Cond.methodLink RX10 118 mX3_minutesOrUsual.1 ∈ ax_ws := ax_mem1 618 (by decide +kernel) rfl
theorem lRX10_122 : Cond.methodLink RX10 122 mX10_isWithin.1 ∈ ax_ws := ax_mem1 626 (by decide +kernel) rfl
theorem lRX10_126 : Cond.methodLink RX10 126 mX1_hasExaminer.1 ∈ ax_ws := ax_mem1 629 (by decide +kernel) rfl
theorem lRX10_129 : Cond.methodLink RX10 129 mX2_add.1 ∈ ax_ws := ax_mem1 633 (by decide +kernel) rfl
theorem lRX10_133 : Cond.methodLink RX10 133 mX2_has.1 ∈ ax_ws := ax_mem1 641 (by decide +kernel) rfl
theorem lRX10_136 : Cond.methodLink RX10 136 mX9_isWord.1 ∈ ax_ws := ax_mem1 645 (by decide +kernel) rfl
theorem lRX10_140 : Cond.methodLink RX10 140 mX2_addPiece.1 ∈ ax_ws := ax_mem1 648 (by decide +kernel) rfl
theorem lRX10_144 : Cond.methodLink RX10 144 mX10_firstUnmet.1 ∈ ax_ws := ax_mem1 656 (by decide +kernel) rfl
theorem lRX10_147 : Cond.methodLink RX10 147 mX1_addCentre.1 ∈ ax_ws := ax_mem1 719 (by decide +kernel) rfl
theorem lRX10_150 : Cond.methodLink RX10 150 mX1_hasCentre.1 ∈ ax_ws := ax_mem1 727 (by decide +kernel) rfl
theorem lRX10_153 : Cond.methodLink RX10 153 mX1_setWay.1 ∈ ax_ws := ax_mem1 731 (by decide +kernel) rfl
theorem lRX10_157 : Cond.methodLink RX10 157 mX1_addExaminer.1 ∈ ax_ws := ax_mem1 739 (by decide +kernel) rfl
theorem lRX10_161 : Cond.methodLink RX10 161 mX1_addSession.1 ∈ ax_ws := ax_mem1 747 (by decide +kernel) rfl
theorem lRX10_164 : Cond.methodLink RX10 164 mX1_hasSession.1 ∈ ax_ws := ax_mem1 755 (by decide +kernel) rfl
theorem lRX10_167 : Cond.methodLink RX10 167 mX10_minutesWith.1 ∈ ax_ws := ax_mem1 759 (by decide +kernel) rfl
theorem lRX10_179 : Cond.methodLink RX10 179 mX2_countIn.1 ∈ ax_ws := ax_mem1 771 (by decide +kernel) rfl
theorem lRX10_182 : Cond.methodLink RX10 182 mX10_mayTake.1 ∈ ax_ws := ax_mem1 779 (by decide +kernel) rfl
theorem lRX10_191 : Cond.methodLink RX10 191 mX7_allow.1 ∈ ax_ws := ax_mem1 803 (by decide +kernel) rfl
theorem lRX10_195 : Cond.methodLink RX10 195 mX7_plan.1 ∈ ax_ws := ax_mem1 807 (by decide +kernel) rfl
theorem lRX10_202 : Cond.methodLink RX10 202 mX10_canBeTaken.1 ∈ ax_ws := ax_mem1 862 (by decide +kernel) rfl
theorem lRX10_209 : Cond.methodLink RX10 209 mX10_canBeMarked.1 ∈ ax_ws := ax_mem1 875 (by decide +kernel) rfl
theorem lRX10_212 : Cond.methodLink RX10 212 mX5_tell.1 ∈ ax_ws := ax_mem1 879 (by decide +kernel) rfl
theorem lRX10_216 : Cond.methodLink RX10 216 mX5_knownPoints.1 ∈ ax_ws := ax_mem1 887 (by decide +kernel) rfl
theorem lRX10_220 : Cond.methodLink RX10 220 mX5_takeBack.1 ∈ ax_ws := ax_mem1 908 (by decide +kernel) rfl
theorem lRX10_223 : Cond.methodLink RX10 223 mX5_mainOf.1 ∈ ax_ws := ax_mem1 920 (by decide +kernel) rfl
theorem lRX10_226 : Cond.methodLink RX10 226 mX10_resultOf.1 ∈ ax_ws := ax_mem1 925 (by decide +kernel) rfl
theorem lRX10_229 : Cond.methodLink RX10 229 mX5_hardnessOf.1 ∈ ax_ws := ax_mem1 933 (by decide +kernel) rfl
theorem lRX10_232 : Cond.methodLink RX10 232 mX0_anyUpTo.1 ∈ ax_ws := ax_mem1 945 (by decide +kernel) rfl
theorem lRX10_235 : Cond.methodLink RX10 235 mX0_give.1 ∈ ax_ws := ax_mem1 949 (by decide +kernel) rfl
theorem lRX10_238 : Cond.methodLink RX10 238 mX0_has.1 ∈ ax_ws := ax_mem1 957 (by decide +kernel) rfl
theorem lRX10_256 : Cond.methodLink RX10 256 mX8_find.1 ∈ ax_ws := ax_mem1 617 (by decide +kernel) rfl
theorem lRX10_266 : Cond.methodLink RX10 266 mX10_gradeOf.1 ∈ ax_ws := ax_mem1 660 (by decide +kernel) rfl
theorem lRX10_272 : Cond.methodLink RX10 272 mX4_work.1 ∈ ax_ws := ax_mem1 664 (by decide +kernel) rfl
theorem lRX10_285 : Cond.methodLink RX10 285 mX10_minutesOf.1 ∈ ax_ws := ax_mem1 763 (by decide +kernel) rfl
theorem lRX10_288 : Cond.methodLink RX10 288 mX10_mayHear.1 ∈ ax_ws := ax_mem1 783 (by decide +kernel) rfl
theorem lRX10_294 : Cond.methodLink RX10 294 mX1_plays.1 ∈ ax_ws := ax_mem1 787 (by decide +kernel) rfl
theorem lRX10_300 : Cond.methodLink RX10 300 mX10_heardElsewhere.1 ∈ ax_ws := ax_mem1 791 (by decide +kernel) rfl
theorem lRX10_307 : Cond.methodLink RX10 307 mX5_stands.1 ∈ ax_ws := ax_mem1 795 (by decide +kernel) rfl
theorem lRX0_3 : Cond.methodLink RX0 3 Lib.objectInit ∈ ax_ws := ax_mem1 356 (by decide +kernel) rfl
theorem lRX1_3 : Cond.methodLink RX1 3 Lib.objectInit ∈ ax_ws := ax_mem1 241 (by decide +kernel) rfl
theorem lRX2_3 : Cond.methodLink RX2 3 Lib.objectInit ∈ ax_ws := ax_mem1 195 (by decide +kernel) rfl
theorem lRX2_44 : Cond.methodLink RX2 44 mX3_isListed.1 ∈ ax_ws := ax_mem1 699 (by decide +kernel) rfl
theorem lRX2_50 : Cond.methodLink RX2 50 mX3_isListedAnywhere.1 ∈ ax_ws := ax_mem1 704 (by decide +kernel) rfl
theorem lRX3_3 : Cond.methodLink RX3 3 Lib.objectInit ∈ ax_ws := ax_mem1 74 (by decide +kernel) rfl
theorem lRX3_54 : Cond.methodLink RX3 54 mX3_find.1 ∈ ax_ws := ax_mem1 519 (by decide +kernel) rfl
theorem lRX4_3 : Cond.methodLink RX4 3 Lib.objectInit ∈ ax_ws := ax_mem1 178 (by decide +kernel) rfl
theorem lRX4_22 : Cond.methodLink RX4 22 mJ9_max_7cf53.1 ∈ ax_ws := ax_mem1 668 (by decide +kernel) rfl
theorem lRX4_37 : Cond.methodLink RX4 37 mX4_markLeaf.1 ∈ ax_ws := ax_mem1 672 (by decide +kernel) rfl
theorem lRX4_41 : Cond.methodLink RX4 41 mX4_push.1 ∈ ax_ws := ax_mem1 687 (by decide +kernel) rfl
theorem lRX4_45 : Cond.methodLink RX4 45 mX4_pieceLeaf.1 ∈ ax_ws := ax_mem1 691 (by decide +kernel) rfl
theorem lRX4_49 : Cond.methodLink RX4 49 mX4_pop.1 ∈ ax_ws := ax_mem1 708 (by decide +kernel) rfl
theorem lRX4_53 : Cond.methodLink RX4 53 mX4_join.1 ∈ ax_ws := ax_mem1 712 (by decide +kernel) rfl
theorem lRX4_62 : Cond.methodLink RX4 62 mX4_total.1 ∈ ax_ws := ax_mem1 676 (by decide +kernel) rfl
theorem lRX4_66 : Cond.methodLink RX4 66 mX4_least.1 ∈ ax_ws := ax_mem1 680 (by decide +kernel) rfl
theorem lRX4_69 : Cond.methodLink RX4 69 mX2_countListed.1 ∈ ax_ws := ax_mem1 695 (by decide +kernel) rfl
theorem lRX4_75 : Cond.methodLink RX4 75 mX2_countOwn.1 ∈ ax_ws := ax_mem1 700 (by decide +kernel) rfl
theorem lRX4_85 : Cond.methodLink RX4 85 mJ9_min_7cf53.1 ∈ ax_ws := ax_mem1 684 (by decide +kernel) rfl
theorem lRX5_3 : Cond.methodLink RX5 3 Lib.objectInit ∈ ax_ws := ax_mem1 318 (by decide +kernel) rfl
theorem lRX5_40 : Cond.methodLink RX5 40 mX5_stands.1 ∈ ax_ws := ax_mem1 899 (by decide +kernel) rfl
theorem lRX5_44 : Cond.methodLink RX5 44 mX5_isKnown.1 ∈ ax_ws := ax_mem1 895 (by decide +kernel) rfl
theorem lRX5_48 : Cond.methodLink RX5 48 mX5_lastOf.1 ∈ ax_ws := ax_mem1 891 (by decide +kernel) rfl
theorem lRX5_52 : Cond.methodLink RX5 52 mX5_mainOf.1 ∈ ax_ws := ax_mem1 900 (by decide +kernel) rfl
theorem lRX5_56 : Cond.methodLink RX5 56 mX5_insertGap.1 ∈ ax_ws := ax_mem1 937 (by decide +kernel) rfl
theorem lRX6_3 : Cond.methodLink RX6 3 Lib.objectInit ∈ ax_ws := ax_mem1 27 (by decide +kernel) rfl
theorem lRX6_24 : Cond.methodLink RX6 24 mX8_init.1 ∈ ax_ws := ax_mem1 64 (by decide +kernel) rfl
theorem lRX6_35 : Cond.methodLink RX6 35 mX8_clear.1 ∈ ax_ws := ax_mem1 422 (by decide +kernel) rfl
theorem lRX6_38 : Cond.methodLink RX6 38 mX9_rewind.1 ∈ ax_ws := ax_mem1 430 (by decide +kernel) rfl
theorem lRX6_44 : Cond.methodLink RX6 44 mX6_openGrade.1 ∈ ax_ws := ax_mem1 470 (by decide +kernel) rfl
theorem lRX6_48 : Cond.methodLink RX6 48 mX9_next.1 ∈ ax_ws := ax_mem1 478 (by decide +kernel) rfl
theorem lRX6_51 : Cond.methodLink RX6 51 mX6_readItem.1 ∈ ax_ws := ax_mem1 499 (by decide +kernel) rfl
theorem lRX6_55 : Cond.methodLink RX6 55 mX6_refuse.1 ∈ ax_ws := ax_mem1 479 (by decide +kernel) rfl
theorem lRX6_58 : Cond.methodLink RX6 58 mX6_take.1 ∈ ax_ws := ax_mem1 474 (by decide +kernel) rfl
theorem lRX6_63 : Cond.methodLink RX6 63 mX6_takeNumber.1 ∈ ax_ws := ax_mem1 487 (by decide +kernel) rfl
theorem lRX6_67 : Cond.methodLink RX6 67 mX8_find.1 ∈ ax_ws := ax_mem1 491 (by decide +kernel) rfl
theorem lRX6_71 : Cond.methodLink RX6 71 mX6_fail.1 ∈ ax_ws := ax_mem1 483 (by decide +kernel) rfl
theorem lRX6_75 : Cond.methodLink RX6 75 mX8_open.1 ∈ ax_ws := ax_mem1 495 (by decide +kernel) rfl
theorem lRX6_78 : Cond.methodLink RX6 78 mX6_cannotStartItem.1 ∈ ax_ws := ax_mem1 503 (by decide +kernel) rfl
theorem lRX6_82 : Cond.methodLink RX6 82 mX6_readList.1 ∈ ax_ws := ax_mem1 507 (by decide +kernel) rfl
theorem lRX6_85 : Cond.methodLink RX6 85 mX6_readPart.1 ∈ ax_ws := ax_mem1 546 (by decide +kernel) rfl
theorem lRX6_96 : Cond.methodLink RX6 96 mX3_addRule.1 ∈ ax_ws := ax_mem1 554 (by decide +kernel) rfl
theorem lRX6_103 : Cond.methodLink RX6 103 mX6_readE.1 ∈ ax_ws := ax_mem1 558 (by decide +kernel) rfl
theorem lRX6_107 : Cond.methodLink RX6 107 mX8_addCell.1 ∈ ax_ws := ax_mem1 570 (by decide +kernel) rfl
theorem lRX6_125 : Cond.methodLink RX6 125 mX6_takeNewName.1 ∈ ax_ws := ax_mem1 511 (by decide +kernel) rfl
theorem lRX6_129 : Cond.methodLink RX6 129 mX3_addList.1 ∈ ax_ws := ax_mem1 526 (by decide +kernel) rfl
theorem lRX6_133 : Cond.methodLink RX6 133 mX6_takeListed.1 ∈ ax_ws := ax_mem1 530 (by decide +kernel) rfl
theorem lRX6_136 : Cond.methodLink RX6 136 mX3_addPart.1 ∈ ax_ws := ax_mem1 550 (by decide +kernel) rfl
theorem lRX6_140 : Cond.methodLink RX6 140 mX6_readBoth.1 ∈ ax_ws := ax_mem1 562 (by decide +kernel) rfl
theorem lRX6_143 : Cond.methodLink RX6 143 mX6_readOne.1 ∈ ax_ws := ax_mem1 566 (by decide +kernel) rfl
theorem lRX6_146 : Cond.methodLink RX6 146 mX6_readCompared.1 ∈ ax_ws := ax_mem1 574 (by decide +kernel) rfl
theorem lRX6_149 : Cond.methodLink RX6 149 mX6_readSum.1 ∈ ax_ws := ax_mem1 578 (by decide +kernel) rfl
theorem lRX6_152 : Cond.methodLink RX6 152 mX6_readLeaf.1 ∈ ax_ws := ax_mem1 582 (by decide +kernel) rfl
theorem lRX6_155 : Cond.methodLink RX6 155 mX6_isLeaf.1 ∈ ax_ws := ax_mem1 586 (by decide +kernel) rfl
theorem lRX6_159 : Cond.methodLink RX6 159 mX6_addMeaning.1 ∈ ax_ws := ax_mem1 589 (by decide +kernel) rfl
theorem lRX6_169 : Cond.methodLink RX6 169 mX3_findList.1 ∈ ax_ws := ax_mem1 515 (by decide +kernel) rfl
theorem lRX6_173 : Cond.methodLink RX6 173 mX3_findPart.1 ∈ ax_ws := ax_mem1 522 (by decide +kernel) rfl
theorem lRX6_176 : Cond.methodLink RX6 176 mX6_addNamed.1 ∈ ax_ws := ax_mem1 593 (by decide +kernel) rfl
theorem lRX6_179 : Cond.methodLink RX6 179 mX3_isLastListFull.1 ∈ ax_ws := ax_mem1 534 (by decide +kernel) rfl
theorem lRX6_183 : Cond.methodLink RX6 183 mX3_isListed.1 ∈ ax_ws := ax_mem1 538 (by decide +kernel) rfl
theorem lRX6_187 : Cond.methodLink RX6 187 mX3_addListed.1 ∈ ax_ws := ax_mem1 542 (by decide +kernel) rfl
theorem lRX7_3 : Cond.methodLink RX7 3 Lib.objectInit ∈ ax_ws := ax_mem1 282 (by decide +kernel) rfl
theorem lRX7_35 : Cond.methodLink RX7 35 mX7_orderByDay.1 ∈ ax_ws := ax_mem1 811 (by decide +kernel) rfl
theorem lRX7_51 : Cond.methodLink RX7 51 mX7_startDay.1 ∈ ax_ws := ax_mem1 815 (by decide +kernel) rfl
theorem lRX7_55 : Cond.methodLink RX7 55 mX7_giveDay.1 ∈ ax_ws := ax_mem1 827 (by decide +kernel) rfl
theorem lRX7_59 : Cond.methodLink RX7 59 mX7_sendAllHome.1 ∈ ax_ws := ax_mem1 819 (by decide +kernel) rfl
theorem lRX7_62 : Cond.methodLink RX7 62 mX7_choose.1 ∈ ax_ws := ax_mem1 850 (by decide +kernel) rfl
theorem lRX7_69 : Cond.methodLink RX7 69 mJ9_min_f86c9.1 ∈ ax_ws := ax_mem1 823 (by decide +kernel) rfl
theorem lRX7_75 : Cond.methodLink RX7 75 mJ9_min_7cf53.1 ∈ ax_ws := ax_mem1 826 (by decide +kernel) rfl
theorem lRX7_78 : Cond.methodLink RX7 78 mX7_addState.1 ∈ ax_ws := ax_mem1 831 (by decide +kernel) rfl
theorem lRX7_85 : Cond.methodLink RX7 85 mX7_placeOf.1 ∈ ax_ws := ax_mem1 838 (by decide +kernel) rfl
theorem lRX7_91 : Cond.methodLink RX7 91 mX7_costOf.1 ∈ ax_ws := ax_mem1 846 (by decide +kernel) rfl
theorem lRX7_95 : Cond.methodLink RX7 95 mX7_savedBetween.1 ∈ ax_ws := ax_mem1 835 (by decide +kernel) rfl
theorem lRX7_101 : Cond.methodLink RX7 101 mX1_minutesBetween.1 ∈ ax_ws := ax_mem1 842 (by decide +kernel) rfl
theorem lRX7_106 : Cond.methodLink RX7 106 mX1_hasCentre.1 ∈ ax_ws := ax_mem1 841 (by decide +kernel) rfl
theorem lRX8_3 : Cond.methodLink RX8 3 Lib.objectInit ∈ ax_ws := ax_mem1 67 (by decide +kernel) rfl
theorem lRX8_29 : Cond.methodLink RX8 29 mX3_clear.1 ∈ ax_ws := ax_mem1 426 (by decide +kernel) rfl
theorem lRX9_3 : Cond.methodLink RX9 3 Lib.objectInit ∈ ax_ws := ax_mem1 33 (by decide +kernel) rfl
theorem lRX9_22 : Cond.methodLink RX9 22 mX9_next.1 ∈ ax_ws := ax_mem1 434 (by decide +kernel) rfl
theorem lRX9_25 : Cond.methodLink RX9 25 mX9_byteAt.1 ∈ ax_ws := ax_mem1 438 (by decide +kernel) rfl
theorem lRX9_29 : Cond.methodLink RX9 29 mX9_isBlank.1 ∈ ax_ws := ax_mem1 442 (by decide +kernel) rfl
theorem lRX9_39 : Cond.methodLink RX9 39 mX9_isLetter.1 ∈ ax_ws := ax_mem1 445 (by decide +kernel) rfl
theorem lRX9_42 : Cond.methodLink RX9 42 mX9_readWord.1 ∈ ax_ws := ax_mem1 448 (by decide +kernel) rfl
theorem lRX9_45 : Cond.methodLink RX9 45 mX9_isDigit.1 ∈ ax_ws := ax_mem1 460 (by decide +kernel) rfl
theorem lRX9_48 : Cond.methodLink RX9 48 mX9_readNumber.1 ∈ ax_ws := ax_mem1 463 (by decide +kernel) rfl
theorem lRX9_51 : Cond.methodLink RX9 51 mX9_isSign.1 ∈ ax_ws := ax_mem1 467 (by decide +kernel) rfl
theorem lRX9_58 : Cond.methodLink RX9 58 mX9_isLetterOrDigit.1 ∈ ax_ws := ax_mem1 452 (by decide +kernel) rfl
theorem lRX9_61 : Cond.methodLink RX9 61 mX9_kindOf.1 ∈ ax_ws := ax_mem1 455 (by decide +kernel) rfl
theorem lRL_9 : Cond.methodLink RL 9 mX10_init.1 ∈ ax_ws := ax_mem1 16 (by decide +kernel) rfl
theorem lRL_12 : Cond.methodLink RL 12 mX11_init.1 ∈ ax_ws := ax_mem1 971 (by decide +kernel) rfl
theorem lRL_13 : Cond.methodLink RL 13 mX10_feed.1 ∈ ax_ws := ax_mem1 399 (by decide +kernel) rfl
theorem lRL_17 : Cond.methodLink RL 17 mX11_feed.1 ∈ ax_ws := ax_mem1 1551 (by decide +kernel) rfl
theorem lRL_18 : Cond.methodLink RL 18 mX10_end.1 ∈ ax_ws := ax_mem1 407 (by decide +kernel) rfl
theorem lRL_22 : Cond.methodLink RL 22 mX11_end.1 ∈ ax_ws := ax_mem1 1555 (by decide +kernel) rfl
theorem lRL_23 : Cond.methodLink RL 23 mX10_syllabus.1 ∈ ax_ws := ax_mem1 411 (by decide +kernel) rfl
theorem lRL_26 : Cond.methodLink RL 26 mX11_syllabus.1 ∈ ax_ws := ax_mem1 1207 (by decide +kernel) rfl
theorem lRL_27 : Cond.methodLink RL 27 mX10_fault.1 ∈ ax_ws := ax_mem1 605 (by decide +kernel) rfl
theorem lRL_30 : Cond.methodLink RL 30 mX11_fault.1 ∈ ax_ws := ax_mem1 1334 (by decide +kernel) rfl
theorem lRL_31 : Cond.methodLink RL 31 mX10_grade.1 ∈ ax_ws := ax_mem1 609 (by decide +kernel) rfl
theorem lRL_35 : Cond.methodLink RL 35 mX11_grade.1 ∈ ax_ws := ax_mem1 1338 (by decide +kernel) rfl
theorem lRL_36 : Cond.methodLink RL 36 mX10_entry.1 ∈ ax_ws := ax_mem1 622 (by decide +kernel) rfl
theorem lRL_40 : Cond.methodLink RL 40 mX11_entry.1 ∈ ax_ws := ax_mem1 1350 (by decide +kernel) rfl
theorem lRL_43 : Cond.methodLink RL 43 mX10_piece.1 ∈ ax_ws := ax_mem1 637 (by decide +kernel) rfl
theorem lRL_47 : Cond.methodLink RL 47 mX11_piece.1 ∈ ax_ws := ax_mem1 1354 (by decide +kernel) rfl
theorem lRL_48 : Cond.methodLink RL 48 mX10_judge.1 ∈ ax_ws := ax_mem1 652 (by decide +kernel) rfl
theorem lRL_51 : Cond.methodLink RL 51 mX11_judge.1 ∈ ax_ws := ax_mem1 1366 (by decide +kernel) rfl
theorem lRL_52 : Cond.methodLink RL 52 mX10_centre.1 ∈ ax_ws := ax_mem1 715 (by decide +kernel) rfl
theorem lRL_56 : Cond.methodLink RL 56 mX11_centre.1 ∈ ax_ws := ax_mem1 1401 (by decide +kernel) rfl
theorem lRL_57 : Cond.methodLink RL 57 mX10_way.1 ∈ ax_ws := ax_mem1 723 (by decide +kernel) rfl
theorem lRL_61 : Cond.methodLink RL 61 mX11_way.1 ∈ ax_ws := ax_mem1 1405 (by decide +kernel) rfl
theorem lRL_62 : Cond.methodLink RL 62 mX10_examiner.1 ∈ ax_ws := ax_mem1 735 (by decide +kernel) rfl
theorem lRL_66 : Cond.methodLink RL 66 mX11_examiner.1 ∈ ax_ws := ax_mem1 1413 (by decide +kernel) rfl
theorem lRL_67 : Cond.methodLink RL 67 mX10_session.1 ∈ ax_ws := ax_mem1 743 (by decide +kernel) rfl
theorem lRL_70 : Cond.methodLink RL 70 mX11_session.1 ∈ ax_ws := ax_mem1 1417 (by decide +kernel) rfl
theorem lRL_71 : Cond.methodLink RL 71 mX10_put.1 ∈ ax_ws := ax_mem1 751 (by decide +kernel) rfl
theorem lRL_75 : Cond.methodLink RL 75 mX11_put.1 ∈ ax_ws := ax_mem1 1421 (by decide +kernel) rfl
theorem lRL_76 : Cond.methodLink RL 76 mX10_of.1 ∈ ax_ws := ax_mem1 767 (by decide +kernel) rfl
theorem lRL_79 : Cond.methodLink RL 79 mX11_of.1 ∈ ax_ws := ax_mem1 1433 (by decide +kernel) rfl
theorem lRL_80 : Cond.methodLink RL 80 mX10_may.1 ∈ ax_ws := ax_mem1 775 (by decide +kernel) rfl
theorem lRL_83 : Cond.methodLink RL 83 mX11_may.1 ∈ ax_ws := ax_mem1 1437 (by decide +kernel) rfl
theorem lRL_84 : Cond.methodLink RL 84 mX10_tour.1 ∈ ax_ws := ax_mem1 799 (by decide +kernel) rfl
theorem lRL_87 : Cond.methodLink RL 87 mX11_tour.1 ∈ ax_ws := ax_mem1 1457 (by decide +kernel) rfl
theorem lRL_88 : Cond.methodLink RL 88 mX10_toured.1 ∈ ax_ws := ax_mem1 854 (by decide +kernel) rfl
theorem lRL_91 : Cond.methodLink RL 91 mX11_toured.1 ∈ ax_ws := ax_mem1 1478 (by decide +kernel) rfl
theorem lRL_92 : Cond.methodLink RL 92 mX10_stuck.1 ∈ ax_ws := ax_mem1 858 (by decide +kernel) rfl
theorem lRL_95 : Cond.methodLink RL 95 mX11_stuck.1 ∈ ax_ws := ax_mem1 1453 (by decide +kernel) rfl
theorem lRL_96 : Cond.methodLink RL 96 mX10_later.1 ∈ ax_ws := ax_mem1 866 (by decide +kernel) rfl
theorem lRL_99 : Cond.methodLink RL 99 mX11_later.1 ∈ ax_ws := ax_mem1 1482 (by decide +kernel) rfl
theorem lRL_100 : Cond.methodLink RL 100 mX10_mark.1 ∈ ax_ws := ax_mem1 871 (by decide +kernel) rfl
theorem lRL_104 : Cond.methodLink RL 104 mX11_mark.1 ∈ ax_ws := ax_mem1 1487 (by decide +kernel) rfl
theorem lRL_105 : Cond.methodLink RL 105 mX10_appeal.1 ∈ ax_ws := ax_mem1 883 (by decide +kernel) rfl
theorem lRL_108 : Cond.methodLink RL 108 mX11_appeal.1 ∈ ax_ws := ax_mem1 1495 (by decide +kernel) rfl
theorem lRL_109 : Cond.methodLink RL 109 mX10_untell.1 ∈ ax_ws := ax_mem1 904 (by decide +kernel) rfl
theorem lRL_113 : Cond.methodLink RL 113 mX11_untell.1 ∈ ax_ws := ax_mem1 1515 (by decide +kernel) rfl
theorem lRL_114 : Cond.methodLink RL 114 mX10_known.1 ∈ ax_ws := ax_mem1 912 (by decide +kernel) rfl
theorem lRL_117 : Cond.methodLink RL 117 mX11_known.1 ∈ ax_ws := ax_mem1 1520 (by decide +kernel) rfl
theorem lRL_118 : Cond.methodLink RL 118 mX10_main.1 ∈ ax_ws := ax_mem1 916 (by decide +kernel) rfl
theorem lRL_121 : Cond.methodLink RL 121 mX11_main.1 ∈ ax_ws := ax_mem1 1519 (by decide +kernel) rfl
theorem lRL_122 : Cond.methodLink RL 122 mX10_result.1 ∈ ax_ws := ax_mem1 921 (by decide +kernel) rfl
theorem lRL_125 : Cond.methodLink RL 125 mX11_result.1 ∈ ax_ws := ax_mem1 1521 (by decide +kernel) rfl
theorem lRL_126 : Cond.methodLink RL 126 mX10_hardness.1 ∈ ax_ws := ax_mem1 929 (by decide +kernel) rfl
theorem lRL_129 : Cond.methodLink RL 129 mX11_hardness.1 ∈ ax_ws := ax_mem1 1526 (by decide +kernel) rfl
theorem lRL_130 : Cond.methodLink RL 130 mX10_certify.1 ∈ ax_ws := ax_mem1 941 (by decide +kernel) rfl
theorem lRL_133 : Cond.methodLink RL 133 mX11_certify.1 ∈ ax_ws := ax_mem1 1530 (by decide +kernel) rfl
theorem lRL_134 : Cond.methodLink RL 134 mX10_certificate.1 ∈ ax_ws := ax_mem1 953 (by decide +kernel) rfl
theorem lRL_137 : Cond.methodLink RL 137 mX11_certificate.1 ∈ ax_ws := ax_mem1 1539 (by decide +kernel) rfl
theorem lRL_138 : Cond.methodLink RL 138 mX10_holds.1 ∈ ax_ws := ax_mem1 961 (by decide +kernel) rfl
theorem lRL_141 : Cond.methodLink RL 141 mX11_holds.1 ∈ ax_ws := ax_mem1 1543 (by decide +kernel) rfl
theorem lRL_142 : Cond.methodLink RL 142 mX10_about.1 ∈ ax_ws := ax_mem1 965 (by decide +kernel) rfl
theorem lRL_145 : Cond.methodLink RL 145 mX11_about.1 ∈ ax_ws := ax_mem1 1547 (by decide +kernel) rfl
theorem lRX11_27 : Cond.methodLink RX11 27 mX11_isMeant.1 ∈ ax_ws := ax_mem1 1228 (by decide +kernel) rfl
theorem lRX11_57 : Cond.methodLink RX11 57 mX11_sign.1 ∈ ax_ws := ax_mem1 1215 (by decide +kernel) rfl
theorem lRX11_64 : Cond.methodLink RX11 64 mX11_isLetter.1 ∈ ax_ws := ax_mem1 1219 (by decide +kernel) rfl
theorem lRX11_68 : Cond.methodLink RX11 68 mX11_isDigit.1 ∈ ax_ws := ax_mem1 1222 (by decide +kernel) rfl
theorem lRX11_75 : Cond.methodLink RX11 75 mX11_isKept.1 ∈ ax_ws := ax_mem1 1225 (by decide +kernel) rfl
theorem lRX11_81 : Cond.methodLink RX11 81 mX11_fails.1 ∈ ax_ws := ax_mem1 1262 (by decide +kernel) rfl
theorem lRX11_85 : Cond.methodLink RX11 85 mX11_is.1 ∈ ax_ws := ax_mem1 1274 (by decide +kernel) rfl
theorem lRX11_88 : Cond.methodLink RX11 88 mX11_next.1 ∈ ax_ws := ax_mem1 1211 (by decide +kernel) rfl
theorem lRX11_92 : Cond.methodLink RX11 92 mX11_wrong.1 ∈ ax_ws := ax_mem1 1258 (by decide +kernel) rfl
theorem lRX11_95 : Cond.methodLink RX11 95 mX11_isGood.1 ∈ ax_ws := ax_mem1 1246 (by decide +kernel) rfl
theorem lRX11_99 : Cond.methodLink RX11 99 Lib.objectInit ∈ ax_ws := ax_mem1 974 (by decide +kernel) rfl
theorem lRX11_281 : Cond.methodLink RX11 281 mX11_readGrade.1 ∈ ax_ws := ax_mem1 1250 (by decide +kernel) rfl
theorem lRX11_284 : Cond.methodLink RX11 284 mX11_isWord.1 ∈ ax_ws := ax_mem1 1254 (by decide +kernel) rfl
theorem lRX11_287 : Cond.methodLink RX11 287 mX11_numberOf.1 ∈ ax_ws := ax_mem1 1266 (by decide +kernel) rfl
theorem lRX11_291 : Cond.methodLink RX11 291 mX11_must.1 ∈ ax_ws := ax_mem1 1270 (by decide +kernel) rfl
theorem lRX11_295 : Cond.methodLink RX11 295 mX11_readItem.1 ∈ ax_ws := ax_mem1 1278 (by decide +kernel) rfl
theorem lRX11_298 : Cond.methodLink RX11 298 mX11_readList.1 ∈ ax_ws := ax_mem1 1282 (by decide +kernel) rfl
theorem lRX11_301 : Cond.methodLink RX11 301 mX11_readPart.1 ∈ ax_ws := ax_mem1 1302 (by decide +kernel) rfl
theorem lRX11_304 : Cond.methodLink RX11 304 mX11_e.1 ∈ ax_ws := ax_mem1 1306 (by decide +kernel) rfl
theorem lRX11_308 : Cond.methodLink RX11 308 mX11_listOf.1 ∈ ax_ws := ax_mem1 1290 (by decide +kernel) rfl
theorem lRX11_312 : Cond.methodLink RX11 312 mX11_partOf.1 ∈ ax_ws := ax_mem1 1294 (by decide +kernel) rfl
theorem lRX11_315 : Cond.methodLink RX11 315 mX11_canName.1 ∈ ax_ws := ax_mem1 1286 (by decide +kernel) rfl
theorem lRX11_318 : Cond.methodLink RX11 318 mX11_hasPiece.1 ∈ ax_ws := ax_mem1 1298 (by decide +kernel) rfl
theorem lRX11_328 : Cond.methodLink RX11 328 mX11_pile.1 ∈ ax_ws := ax_mem1 1310 (by decide +kernel) rfl
theorem lRX11_331 : Cond.methodLink RX11 331 mX11_behind.1 ∈ ax_ws := ax_mem1 1314 (by decide +kernel) rfl
theorem lRX11_335 : Cond.methodLink RX11 335 mX11_value.1 ∈ ax_ws := ax_mem1 1326 (by decide +kernel) rfl
theorem lRX11_339 : Cond.methodLink RX11 339 mX11_meant.1 ∈ ax_ws := ax_mem1 1330 (by decide +kernel) rfl
theorem lRX11_342 : Cond.methodLink RX11 342 mX11_step.1 ∈ ax_ws := ax_mem1 1322 (by decide +kernel) rfl
theorem lRX11_345 : Cond.methodLink RX11 345 mX11_rankHere.1 ∈ ax_ws := ax_mem1 1318 (by decide +kernel) rfl
theorem lRX11_348 : Cond.methodLink RX11 348 mX11_spot.1 ∈ ax_ws := ax_mem1 1342 (by decide +kernel) rfl
theorem lRX11_351 : Cond.methodLink RX11 351 mX11_minutesOf.1 ∈ ax_ws := ax_mem1 1346 (by decide +kernel) rfl
theorem lRX11_362 : Cond.methodLink RX11 362 mX11_isEntry.1 ∈ ax_ws := ax_mem1 1358 (by decide +kernel) rfl
theorem lRX11_365 : Cond.methodLink RX11 365 mX11_isName.1 ∈ ax_ws := ax_mem1 1362 (by decide +kernel) rfl
theorem lRX11_368 : Cond.methodLink RX11 368 mX11_leaf.1 ∈ ax_ws := ax_mem1 1378 (by decide +kernel) rfl
theorem lRX11_372 : Cond.methodLink RX11 372 mX11_two.1 ∈ ax_ws := ax_mem1 1398 (by decide +kernel) rfl
theorem lRX11_376 : Cond.methodLink RX11 376 mX11_inList.1 ∈ ax_ws := ax_mem1 1382 (by decide +kernel) rfl
theorem lRX11_379 : Cond.methodLink RX11 379 mX11_inNone.1 ∈ ax_ws := ax_mem1 1386 (by decide +kernel) rfl
theorem lRX11_382 : Cond.methodLink RX11 382 mX11_total.1 ∈ ax_ws := ax_mem1 1390 (by decide +kernel) rfl
theorem lRX11_385 : Cond.methodLink RX11 385 mX11_leastMark.1 ∈ ax_ws := ax_mem1 1394 (by decide +kernel) rfl
theorem lRX11_388 : Cond.methodLink RX11 388 mX11_spotOf.1 ∈ ax_ws := ax_mem1 1370 (by decide +kernel) rfl
theorem lRX11_391 : Cond.methodLink RX11 391 mX11_work.1 ∈ ax_ws := ax_mem1 1374 (by decide +kernel) rfl
theorem lRX11_397 : Cond.methodLink RX11 397 mX11_isCentre.1 ∈ ax_ws := ax_mem1 1409 (by decide +kernel) rfl
theorem lRX11_403 : Cond.methodLink RX11 403 mX11_isSession.1 ∈ ax_ws := ax_mem1 1425 (by decide +kernel) rfl
theorem lRX11_406 : Cond.methodLink RX11 406 mX11_minutesIn.1 ∈ ax_ws := ax_mem1 1429 (by decide +kernel) rfl
theorem lRX11_412 : Cond.methodLink RX11 412 mX11_hasHeard.1 ∈ ax_ws := ax_mem1 1449 (by decide +kernel) rfl
theorem lRX11_416 : Cond.methodLink RX11 416 mX11_isExaminer.1 ∈ ax_ws := ax_mem1 1441 (by decide +kernel) rfl
theorem lRX11_419 : Cond.methodLink RX11 419 mX11_mayTake.1 ∈ ax_ws := ax_mem1 1445 (by decide +kernel) rfl
theorem lRX11_423 : Cond.methodLink RX11 423 mX11_nextOf.1 ∈ ax_ws := ax_mem1 1466 (by decide +kernel) rfl
theorem lRX11_426 : Cond.methodLink RX11 426 mX11_agrees.1 ∈ ax_ws := ax_mem1 1474 (by decide +kernel) rfl
theorem lRX11_429 : Cond.methodLink RX11 429 mX11_travel.1 ∈ ax_ws := ax_mem1 1461 (by decide +kernel) rfl
theorem lRX11_432 : Cond.methodLink RX11 432 mX11_solve.1 ∈ ax_ws := ax_mem1 1470 (by decide +kernel) rfl
theorem lRX11_442 : Cond.methodLink RX11 442 mX11_tell.1 ∈ ax_ws := ax_mem1 1491 (by decide +kernel) rfl
theorem lRX11_445 : Cond.methodLink RX11 445 mX11_known.1 ∈ ax_ws := ax_mem1 1499 (by decide +kernel) rfl
theorem lRX11_448 : Cond.methodLink RX11 448 mX11_isKnown.1 ∈ ax_ws := ax_mem1 1507 (by decide +kernel) rfl
theorem lRX11_451 : Cond.methodLink RX11 451 mX11_lastOf.1 ∈ ax_ws := ax_mem1 1503 (by decide +kernel) rfl
theorem lRX11_454 : Cond.methodLink RX11 454 mX11_main.1 ∈ ax_ws := ax_mem1 1511 (by decide +kernel) rfl
theorem lRX11_457 : Cond.methodLink RX11 457 mX11_judge.1 ∈ ax_ws := ax_mem1 1525 (by decide +kernel) rfl
theorem lRX11_460 : Cond.methodLink RX11 460 mX11_result.1 ∈ ax_ws := ax_mem1 1534 (by decide +kernel) rfl
theorem lRX11_466 : Cond.methodLink RX11 466 mX11_doesHold.1 ∈ ax_ws := ax_mem1 1535 (by decide +kernel) rfl
theorem lRX10_11 : Cond.methodLinkNest RX10 11 mX6_init.1 "ExamTour" ∈ ax_nest := ax_memN 24 (by decide +kernel) rfl
theorem lRX10_24 : Cond.methodLinkNest RX10 24 mX4_init.1 "ExamTour" ∈ ax_nest := ax_memN 175 (by decide +kernel) rfl
theorem lRX10_31 : Cond.methodLinkNest RX10 31 mX2_init.1 "ExamTour" ∈ ax_nest := ax_memN 192 (by decide +kernel) rfl
theorem lRX10_38 : Cond.methodLinkNest RX10 38 mX1_init.1 "ExamTour" ∈ ax_nest := ax_memN 238 (by decide +kernel) rfl
theorem lRX10_52 : Cond.methodLinkNest RX10 52 mX5_init.1 "ExamTour" ∈ ax_nest := ax_memN 315 (by decide +kernel) rfl
theorem lRX10_59 : Cond.methodLinkNest RX10 59 mX0_init.1 "ExamTour" ∈ ax_nest := ax_memN 353 (by decide +kernel) rfl
theorem lRX6_11 : Cond.methodLinkNest RX6 11 mX9_init.1 "ExamTour" ∈ ax_nest := ax_memN 30 (by decide +kernel) rfl
theorem lRX8_21 : Cond.methodLinkNest RX8 21 mX3_init.1 "ExamTour" ∈ ax_nest := ax_memN 71 (by decide +kernel) rfl
theorem gRX9_68 : Cond.fieldLinkNest RX9 68 "ExamTour" "KEPT_WORDS" "[J" "ExamTour" ∈ ax_nest := ax_memN 458 (by decide +kernel) rfl
theorem kRX10_9 : Cond.classLink RX10 9 RX6 ∈ ax_ws := ax_mem1 22 (by decide +kernel) rfl
theorem kRX10_16 : Cond.classLink RX10 16 RX8 ∈ ax_ws := ax_mem1 171 (by decide +kernel) rfl
theorem kRX10_22 : Cond.classLink RX10 22 RX4 ∈ ax_ws := ax_mem1 173 (by decide +kernel) rfl
theorem kRX10_29 : Cond.classLink RX10 29 RX2 ∈ ax_ws := ax_mem1 190 (by decide +kernel) rfl
theorem kRX10_36 : Cond.classLink RX10 36 RX1 ∈ ax_ws := ax_mem1 236 (by decide +kernel) rfl
theorem kRX10_43 : Cond.classLink RX10 43 RX7 ∈ ax_ws := ax_mem1 277 (by decide +kernel) rfl
theorem kRX10_50 : Cond.classLink RX10 50 RX5 ∈ ax_ws := ax_mem1 313 (by decide +kernel) rfl
theorem kRX10_57 : Cond.classLink RX10 57 RX0 ∈ ax_ws := ax_mem1 351 (by decide +kernel) rfl
theorem kRX6_9 : Cond.classLink RX6 9 RX9 ∈ ax_ws := ax_mem1 28 (by decide +kernel) rfl
theorem kRX6_22 : Cond.classLink RX6 22 RX8 ∈ ax_ws := ax_mem1 62 (by decide +kernel) rfl
theorem kRX8_9 : Cond.classLink RX8 9 RX3 ∈ ax_ws := ax_mem1 68 (by decide +kernel) rfl
theorem kRL_7 : Cond.classLink RL 7 RX10 ∈ ax_ws := ax_mem1 14 (by decide +kernel) rfl
theorem kRL_10 : Cond.classLink RL 10 RX11 ∈ ax_ws := ax_mem1 969 (by decide +kernel) rfl
theorem vRX10_208 : Cond.constant RX10 208 (100000 : Int32) ∈ ax_ws := ax_mem1 870 (by decide +kernel) rfl
theorem vRX4_36 : Cond.constant RX4 36 (1048575 : Int32) ∈ ax_ws := ax_mem1 671 (by decide +kernel) rfl
theorem vRX11_422 : Cond.constant RX11 422 (1000000 : Int32) ∈ ax_ws := ax_mem1 1465 (by decide +kernel) rfl
theorem vRX11_441 : Cond.constant RX11 441 (100000 : Int32) ∈ ax_ws := ax_mem1 1486 (by decide +kernel) rfl
theorem vRX7_104 : Cond.constantLong RX7 104 (2 : Int64) ∈ ax_ws := ax_mem1 849 (by decide +kernel) rfl
theorem vRL_41 : Cond.constantLong RL 41 (4294967295 : Int64) ∈ ax_ws := ax_mem1 1559 (by decide +kernel) rfl
theorem vRX11_17 : Cond.constantLong RX11 17 (7305070 : Int64) ∈ ax_ws := ax_mem1 1231 (by decide +kernel) rfl
theorem vRX11_19 : Cond.constantLong RX11 19 (123597974889843 : Int64) ∈ ax_ws := ax_mem1 1232 (by decide +kernel) rfl
theorem vRX11_21 : Cond.constantLong RX11 21 (6383461 : Int64) ∈ ax_ws := ax_mem1 1233 (by decide +kernel) rfl
theorem vRX11_23 : Cond.constantLong RX11 23 (500086104428 : Int64) ∈ ax_ws := ax_mem1 1234 (by decide +kernel) rfl
theorem vRX11_25 : Cond.constantLong RX11 25 (465557353332 : Int64) ∈ ax_ws := ax_mem1 1235 (by decide +kernel) rfl
theorem vRX11_31 : Cond.constantLong RX11 31 (444300616805 : Int64) ∈ ax_ws := ax_mem1 1236 (by decide +kernel) rfl
theorem vRX11_33 : Cond.constantLong RX11 33 (1818850164 : Int64) ∈ ax_ws := ax_mem1 1237 (by decide +kernel) rfl
theorem vRX11_35 : Cond.constantLong RX11 35 (1885434484 : Int64) ∈ ax_ws := ax_mem1 1238 (by decide +kernel) rfl
theorem vRX11_37 : Cond.constantLong RX11 37 (30796695599342963 : Int64) ∈ ax_ws := ax_mem1 1239 (by decide +kernel) rfl
theorem vRX11_39 : Cond.constantLong RX11 39 (1836413812 : Int64) ∈ ax_ws := ax_mem1 1240 (by decide +kernel) rfl
theorem vRX11_41 : Cond.constantLong RX11 41 (1885434739 : Int64) ∈ ax_ws := ax_mem1 1241 (by decide +kernel) rfl
theorem vRX11_43 : Cond.constantLong RX11 43 (469853432180 : Int64) ∈ ax_ws := ax_mem1 1242 (by decide +kernel) rfl
theorem vRX11_45 : Cond.constantLong RX11 45 (28530 : Int64) ∈ ax_ws := ax_mem1 1243 (by decide +kernel) rfl
theorem vRX11_47 : Cond.constantLong RX11 47 (6385252 : Int64) ∈ ax_ws := ax_mem1 1244 (by decide +kernel) rfl
theorem vRX11_49 : Cond.constantLong RX11 49 (7237492 : Int64) ∈ ax_ws := ax_mem1 1245 (by decide +kernel) rfl
theorem vRX11_360 : Cond.constantLong RX11 360 (255 : Int64) ∈ ax_ws := ax_mem1 1365 (by decide +kernel) rfl
theorem inRX10 : Cond.instantiable RX10 8 ∈ ax_ws := ax_mem1 15 (by decide +kernel) rfl
theorem iiRX10 : Cond.initialized RX10 ∈ ax_ws := ax_mem1 1 (by decide +kernel) rfl
theorem inRX0 : Cond.instantiable RX0 4 ∈ ax_ws := ax_mem1 352 (by decide +kernel) rfl
theorem iiRX0 : Cond.initialized RX0 ∈ ax_ws := ax_mem1 11 (by decide +kernel) rfl
theorem inRX1 : Cond.instantiable RX1 8 ∈ ax_ws := ax_mem1 237 (by decide +kernel) rfl
theorem iiRX1 : Cond.initialized RX1 ∈ ax_ws := ax_mem1 8 (by decide +kernel) rfl
theorem inRX2 : Cond.instantiable RX2 10 ∈ ax_ws := ax_mem1 191 (by decide +kernel) rfl
theorem iiRX2 : Cond.initialized RX2 ∈ ax_ws := ax_mem1 7 (by decide +kernel) rfl
theorem inRX3 : Cond.instantiable RX3 13 ∈ ax_ws := ax_mem1 70 (by decide +kernel) rfl
theorem iiRX3 : Cond.initialized RX3 ∈ ax_ws := ax_mem1 5 (by decide +kernel) rfl
theorem inRX4 : Cond.instantiable RX4 3 ∈ ax_ws := ax_mem1 174 (by decide +kernel) rfl
theorem iiRX4 : Cond.initialized RX4 ∈ ax_ws := ax_mem1 6 (by decide +kernel) rfl
theorem inRX5 : Cond.instantiable RX5 9 ∈ ax_ws := ax_mem1 314 (by decide +kernel) rfl
theorem iiRX5 : Cond.initialized RX5 ∈ ax_ws := ax_mem1 10 (by decide +kernel) rfl
theorem inRX6 : Cond.instantiable RX6 6 ∈ ax_ws := ax_mem1 23 (by decide +kernel) rfl
theorem iiRX6 : Cond.initialized RX6 ∈ ax_ws := ax_mem1 2 (by decide +kernel) rfl
theorem inRX7 : Cond.instantiable RX7 9 ∈ ax_ws := ax_mem1 278 (by decide +kernel) rfl
theorem iiRX7 : Cond.initialized RX7 ∈ ax_ws := ax_mem1 9 (by decide +kernel) rfl
theorem inRX8 : Cond.instantiable RX8 4 ∈ ax_ws := ax_mem1 63 (by decide +kernel) rfl
theorem iiRX8 : Cond.initialized RX8 ∈ ax_ws := ax_mem1 4 (by decide +kernel) rfl
theorem inRX9 : Cond.instantiable RX9 7 ∈ ax_ws := ax_mem1 29 (by decide +kernel) rfl
theorem iiRX9 : Cond.initialized RX9 ∈ ax_ws := ax_mem1 3 (by decide +kernel) rfl
theorem inRX11 : Cond.instantiable RX11 77 ∈ ax_ws := ax_mem1 970 (by decide +kernel) rfl
theorem iiRX11 : Cond.initialized RX11 ∈ ax_ws := ax_mem1 12 (by decide +kernel) rfl
theorem ac_byte : Cond.arrayClass .byte ∈ ax_ws := ax_mem1 61 (by decide +kernel) rfl
theorem ao_RX3 : Cond.arrayOver (.object RX3) ∈ ax_nest := ax_memN 69 (by decide +kernel) rfl
theorem ac_int : Cond.arrayClass .int ∈ ax_ws := ax_mem1 130 (by decide +kernel) rfl
theorem ac_long : Cond.arrayClass .long ∈ ax_ws := ax_mem1 131 (by decide +kernel) rfl
theorem ao_RX8 : Cond.arrayOver (.object RX8) ∈ ax_nest := ax_memN 172 (by decide +kernel) rfl
theorem ac_boolean : Cond.arrayClass .boolean ∈ ax_ws := ax_mem1 312 (by decide +kernel) rfl
def ly_syl : List ((Nat × Nat) ⊕ Nat) := [.inr 8, .inl (5, 8), .inl (0, 750), .inr 3, .inl (1, 6), .inl (0, 6), .inl (1, 72), .inl (1, 6), .inl (0, 6), .inl (0, 8), .inr 3, .inl (1, 6), .inl (0, 6), .inl (1, 72), .inl (1, 6), .inl (0, 6), .inl (0, 8), .inr 3, .inl (1, 6), .inl (0, 6), .inl (1, 72), .inl (1, 6), .inl (0, 6), .inl (0, 8), .inr 3, .inl (1, 6), .inl (0, 6), .inl (1, 72), .inl (1, 6), .inl (0, 6), .inl (0, 8), .inr 3, .inl (1, 6), .inl (0, 6), .inl (1, 72), .inl (1, 6), .inl (0, 6), .inl (0, 8), .inr 3, .inl (1, 6), .inl (0, 6), .inl (1, 72), .inl (1, 6), .inl (0, 6), .inl (0, 8), .inr 3, .inl (1, 6), .inl (0, 6), .inl (1, 72), .inl (1, 6), .inl (0, 6), .inl (0, 8), .inr 3, .inl (1, 6), .inl (0, 6), .inl (1, 72), .inl (1, 6), .inl (0, 6), .inl (0, 8)]
def ly_fix : List ((Nat × Nat) ⊕ Nat) := [.inl (0, 0), .inl (1, 15), .inr 10, .inr 6, .inr 9, .inl (2, 1400), .inr 8, .inl (5, 8), .inl (0, 750), .inr 3, .inl (1, 6), .inl (0, 6), .inl (1, 72), .inl (1, 6), .inl (0, 6), .inl (0, 8), .inr 3, .inl (1, 6), .inl (0, 6), .inl (1, 72), .inl (1, 6), .inl (0, 6), .inl (0, 8), .inr 3, .inl (1, 6), .inl (0, 6), .inl (1, 72), .inl (1, 6), .inl (0, 6), .inl (0, 8), .inr 3, .inl (1, 6), .inl (0, 6), .inl (1, 72), .inl (1, 6), .inl (0, 6), .inl (0, 8), .inr 3, .inl (1, 6), .inl (0, 6), .inl (1, 72), .inl (1, 6), .inl (0, 6), .inl (0, 8), .inr 3, .inl (1, 6), .inl (0, 6), .inl (1, 72), .inl (1, 6), .inl (0, 6), .inl (0, 8), .inr 3, .inl (1, 6), .inl (0, 6), .inl (1, 72), .inl (1, 6), .inl (0, 6), .inl (0, 8), .inr 3, .inl (1, 6), .inl (0, 6), .inl (1, 72), .inl (1, 6), .inl (0, 6), .inl (0, 8), .inl (4, 4), .inr 4, .inl (0, 6), .inl (0, 150), .inr 2, .inl (0, 40), .inl (0, 40), .inl (0, 40), .inl (0, 40), .inl (0, 40), .inl (0, 40), .inl (0, 40), .inl (0, 40), .inl (1, 160), .inr 1, .inl (0, 5), .inl (0, 5), .inl (0, 9), .inl (0, 9), .inl (0, 64), .inr 7, .inl (0, 9), .inl (3, 45), .inl (0, 9), .inl (0, 120), .inl (0, 120), .inl (1, 120), .inl (1, 120), .inr 5, .inl (0, 200), .inl (0, 200), .inl (0, 200), .inl (0, 200), .inl (0, 200), .inl (0, 200), .inl (0, 200), .inr 0, .inl (0, 60), .inl (0, 60), .inl (0, 60), .inr 11, .inl (2, 1420), .inl (2, 1400), .inl (0, 4), .inl (3, 4), .inl (3, 40), .inl (0, 40), .inl (0, 240), .inl (0, 40), .inl (0, 240), .inl (0, 40), .inl (0, 40), .inl (0, 320), .inl (0, 320), .inl (0, 40), .inl (0, 40), .inl (0, 40), .inl (0, 40), .inl (0, 7500), .inl (0, 7500), .inl (0, 5), .inl (1, 240), .inl (1, 2880), .inl (1, 240), .inl (0, 80), .inl (0, 80), .inl (0, 40), .inl (0, 40), .inl (0, 40), .inl (0, 40), .inl (0, 40), .inl (0, 40), .inl (0, 40), .inl (0, 40), .inl (1, 160), .inl (0, 200), .inl (0, 6), .inl (0, 64), .inl (0, 5), .inl (0, 5), .inl (0, 9), .inl (0, 9), .inl (0, 2560), .inl (0, 3072), .inl (0, 9), .inl (0, 9), .inl (0, 200), .inl (0, 200), .inl (0, 200), .inl (0, 200), .inl (0, 200), .inl (0, 200), .inl (0, 1000), .inl (0, 61), .inl (0, 61), .inl (0, 61)]
def ly (k : Nat) : (Nat × Nat) ⊕ Nat := if k < 161 then ly_fix.getD k (.inr 99) else ly_syl.getD ((k - 161) % 59) (.inr 99)
def fk_l : List (List Nat) := [[0, 4, 5, 6], [0, 0, 0, 4, 5, 6, 7, 8], [0, 4, 5, 6, 7, 8, 9, 10, 11, 12], [0, 0, 0, 0, 0, 0, 0, 4, 5, 6, 7, 8, 9], [4, 5, 0], [0, 0, 4, 5, 6, 7, 8, 9, 10], [4, 0, 0, 2, 0, 0], [4, 5, 6, 0, 0, 2, 2, 2, 2], [4, 5, 0, 0], [4, 0, 0, 0, 0, 1, 0], [4, 66, 67, 70, 80, 86, 94, 102], [4, 5, 0, 0, 0, 0, 0, 0, 0, 0, 1, 6, 0, 0, 0, 7, 8, 9, 10, 11, 12, 13, 14, 15, 16, 17, 18, 19, 20, 21, 22, 23, 24, 25, 26, 27, 28, 0, 0, 29, 30, 31, 32, 33, 34, 35, 36, 37, 0, 38, 39, 40, 41, 42, 43, 44, 0, 0, 0, 45, 46, 47, 48, 0, 49, 50, 51, 52, 53, 54, 0, 0, 55, 56, 57, 58, 0]]
def fk (ci j : Nat) : Nat := (fk_l.getD ci []).getD j 9
end
