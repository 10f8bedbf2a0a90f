theorem dX0_init_0 : decode cX0_init 0 = .ok (.aload_n 0, 1) := by decide +kernel
theorem dX0_init_1 : decode cX0_init 1 = .ok (.invokespecial 3, 3) := by decide +kernel
theorem dX0_init_4 : decode cX0_init 4 = .ok (.aload_n 0, 1) := by decide +kernel
theorem dX0_init_5 : decode cX0_init 5 = .ok (.bipush 60, 2) := by decide +kernel
theorem dX0_init_7 : decode cX0_init 7 = .ok (.newarray .int, 2) := by decide +kernel
theorem dX0_init_9 : decode cX0_init 9 = .ok (.putfield 9, 3) := by decide +kernel
theorem dX0_init_12 : decode cX0_init 12 = .ok (.aload_n 0, 1) := by decide +kernel
theorem dX0_init_13 : decode cX0_init 13 = .ok (.bipush 60, 2) := by decide +kernel
theorem dX0_init_15 : decode cX0_init 15 = .ok (.newarray .int, 2) := by decide +kernel
theorem dX0_init_17 : decode cX0_init 17 = .ok (.putfield 15, 3) := by decide +kernel
theorem dX0_init_20 : decode cX0_init 20 = .ok (.aload_n 0, 1) := by decide +kernel
theorem dX0_init_21 : decode cX0_init 21 = .ok (.bipush 60, 2) := by decide +kernel
theorem dX0_init_23 : decode cX0_init 23 = .ok (.newarray .int, 2) := by decide +kernel
theorem dX0_init_25 : decode cX0_init 25 = .ok (.putfield 18, 3) := by decide +kernel
theorem dX0_init_28 : decode cX0_init 28 = .ok (.return_, 1) := by decide +kernel
theorem dX0_has_0 : decode cX0_has 0 = .ok (.iload_n 1, 1) := by decide +kernel
theorem dX0_has_1 : decode cX0_has 1 = .ok (.iconst 1, 1) := by decide +kernel
theorem dX0_has_2 : decode cX0_has 2 = .ok (.if_icmp .lt 15, 3) := by decide +kernel
theorem dX0_has_5 : decode cX0_has 5 = .ok (.iload_n 1, 1) := by decide +kernel
theorem dX0_has_6 : decode cX0_has 6 = .ok (.aload_n 0, 1) := by decide +kernel
theorem dX0_has_7 : decode cX0_has 7 = .ok (.getfield 21, 3) := by decide +kernel
theorem dX0_has_10 : decode cX0_has 10 = .ok (.if_icmp .gt 7, 3) := by decide +kernel
theorem dX0_has_13 : decode cX0_has 13 = .ok (.iconst 1, 1) := by decide +kernel
theorem dX0_has_14 : decode cX0_has 14 = .ok (.goto 4, 3) := by decide +kernel
theorem dX0_has_17 : decode cX0_has 17 = .ok (.iconst 0, 1) := by decide +kernel
theorem dX0_has_18 : decode cX0_has 18 = .ok (.ireturn, 1) := by decide +kernel
theorem dX0_anyUpTo_0 : decode cX0_anyUpTo 0 = .ok (.iconst 0, 1) := by decide +kernel
theorem dX0_anyUpTo_1 : decode cX0_anyUpTo 1 = .ok (.istore_n 3, 1) := by decide +kernel
theorem dX0_anyUpTo_2 : decode cX0_anyUpTo 2 = .ok (.iload_n 3, 1) := by decide +kernel
theorem dX0_anyUpTo_3 : decode cX0_anyUpTo 3 = .ok (.aload_n 0, 1) := by decide +kernel
theorem dX0_anyUpTo_4 : decode cX0_anyUpTo 4 = .ok (.getfield 21, 3) := by decide +kernel
theorem dX0_anyUpTo_7 : decode cX0_anyUpTo 7 = .ok (.if_icmp .ge 31, 3) := by decide +kernel
theorem dX0_anyUpTo_10 : decode cX0_anyUpTo 10 = .ok (.aload_n 0, 1) := by decide +kernel
theorem dX0_anyUpTo_11 : decode cX0_anyUpTo 11 = .ok (.getfield 9, 3) := by decide +kernel
theorem dX0_anyUpTo_14 : decode cX0_anyUpTo 14 = .ok (.iload_n 3, 1) := by decide +kernel
theorem dX0_anyUpTo_15 : decode cX0_anyUpTo 15 = .ok (.iaload, 1) := by decide +kernel
theorem dX0_anyUpTo_16 : decode cX0_anyUpTo 16 = .ok (.iload_n 1, 1) := by decide +kernel
theorem dX0_anyUpTo_17 : decode cX0_anyUpTo 17 = .ok (.if_icmp .ne 15, 3) := by decide +kernel
theorem dX0_anyUpTo_20 : decode cX0_anyUpTo 20 = .ok (.aload_n 0, 1) := by decide +kernel
theorem dX0_anyUpTo_21 : decode cX0_anyUpTo 21 = .ok (.getfield 18, 3) := by decide +kernel
theorem dX0_anyUpTo_24 : decode cX0_anyUpTo 24 = .ok (.iload_n 3, 1) := by decide +kernel
theorem dX0_anyUpTo_25 : decode cX0_anyUpTo 25 = .ok (.iaload, 1) := by decide +kernel
theorem dX0_anyUpTo_26 : decode cX0_anyUpTo 26 = .ok (.iload_n 2, 1) := by decide +kernel
theorem dX0_anyUpTo_27 : decode cX0_anyUpTo 27 = .ok (.if_icmp .gt 5, 3) := by decide +kernel
theorem dX0_anyUpTo_30 : decode cX0_anyUpTo 30 = .ok (.iconst 1, 1) := by decide +kernel
theorem dX0_anyUpTo_31 : decode cX0_anyUpTo 31 = .ok (.ireturn, 1) := by decide +kernel
theorem dX0_anyUpTo_32 : decode cX0_anyUpTo 32 = .ok (.iinc 3 1, 3) := by decide +kernel
theorem dX0_anyUpTo_35 : decode cX0_anyUpTo 35 = .ok (.goto (-33), 3) := by decide +kernel
theorem dX0_anyUpTo_38 : decode cX0_anyUpTo 38 = .ok (.iconst 0, 1) := by decide +kernel
theorem dX0_anyUpTo_39 : decode cX0_anyUpTo 39 = .ok (.ireturn, 1) := by decide +kernel
theorem dX0_give_0 : decode cX0_give 0 = .ok (.aload_n 0, 1) := by decide +kernel
theorem dX0_give_1 : decode cX0_give 1 = .ok (.getfield 21, 3) := by decide +kernel
theorem dX0_give_4 : decode cX0_give 4 = .ok (.bipush 60, 2) := by decide +kernel
theorem dX0_give_6 : decode cX0_give 6 = .ok (.if_icmp .lt 5, 3) := by decide +kernel
theorem dX0_give_9 : decode cX0_give 9 = .ok (.iconst (-1), 1) := by decide +kernel
theorem dX0_give_10 : decode cX0_give 10 = .ok (.ireturn, 1) := by decide +kernel
theorem dX0_give_11 : decode cX0_give 11 = .ok (.aload_n 0, 1) := by decide +kernel
theorem dX0_give_12 : decode cX0_give 12 = .ok (.getfield 9, 3) := by decide +kernel
theorem dX0_give_15 : decode cX0_give 15 = .ok (.aload_n 0, 1) := by decide +kernel
theorem dX0_give_16 : decode cX0_give 16 = .ok (.getfield 21, 3) := by decide +kernel
theorem dX0_give_19 : decode cX0_give 19 = .ok (.iload_n 1, 1) := by decide +kernel
theorem dX0_give_20 : decode cX0_give 20 = .ok (.iastore, 1) := by decide +kernel
theorem dX0_give_21 : decode cX0_give 21 = .ok (.aload_n 0, 1) := by decide +kernel
theorem dX0_give_22 : decode cX0_give 22 = .ok (.getfield 15, 3) := by decide +kernel
theorem dX0_give_25 : decode cX0_give 25 = .ok (.aload_n 0, 1) := by decide +kernel
theorem dX0_give_26 : decode cX0_give 26 = .ok (.getfield 21, 3) := by decide +kernel
theorem dX0_give_29 : decode cX0_give 29 = .ok (.iload_n 2, 1) := by decide +kernel
theorem dX0_give_30 : decode cX0_give 30 = .ok (.iastore, 1) := by decide +kernel
theorem dX0_give_31 : decode cX0_give 31 = .ok (.aload_n 0, 1) := by decide +kernel
theorem dX0_give_32 : decode cX0_give 32 = .ok (.getfield 18, 3) := by decide +kernel
theorem dX0_give_35 : decode cX0_give 35 = .ok (.aload_n 0, 1) := by decide +kernel
theorem dX0_give_36 : decode cX0_give 36 = .ok (.getfield 21, 3) := by decide +kernel
theorem dX0_give_39 : decode cX0_give 39 = .ok (.iload_n 3, 1) := by decide +kernel
theorem dX0_give_40 : decode cX0_give 40 = .ok (.iastore, 1) := by decide +kernel
theorem dX0_give_41 : decode cX0_give 41 = .ok (.aload_n 0, 1) := by decide +kernel
theorem dX0_give_42 : decode cX0_give 42 = .ok (.dup, 1) := by decide +kernel
theorem dX0_give_43 : decode cX0_give 43 = .ok (.getfield 21, 3) := by decide +kernel
theorem dX0_give_46 : decode cX0_give 46 = .ok (.iconst 1, 1) := by decide +kernel
theorem dX0_give_47 : decode cX0_give 47 = .ok (.iadd, 1) := by decide +kernel
theorem dX0_give_48 : decode cX0_give 48 = .ok (.putfield 21, 3) := by decide +kernel
theorem dX0_give_51 : decode cX0_give 51 = .ok (.aload_n 0, 1) := by decide +kernel
theorem dX0_give_52 : decode cX0_give 52 = .ok (.getfield 21, 3) := by decide +kernel
theorem dX0_give_55 : decode cX0_give 55 = .ok (.ireturn, 1) := by decide +kernel
theorem dX1_init_0 : decode cX1_init 0 = .ok (.aload_n 0, 1) := by decide +kernel
theorem dX1_init_1 : decode cX1_init 1 = .ok (.invokespecial 3, 3) := by decide +kernel
theorem dX1_init_4 : decode cX1_init 4 = .ok (.aload_n 0, 1) := by decide +kernel
theorem dX1_init_5 : decode cX1_init 5 = .ok (.iconst 5, 1) := by decide +kernel
theorem dX1_init_6 : decode cX1_init 6 = .ok (.newarray .int, 2) := by decide +kernel
theorem dX1_init_8 : decode cX1_init 8 = .ok (.putfield 9, 3) := by decide +kernel
theorem dX1_init_11 : decode cX1_init 11 = .ok (.aload_n 0, 1) := by decide +kernel
theorem dX1_init_12 : decode cX1_init 12 = .ok (.iconst 5, 1) := by decide +kernel
theorem dX1_init_13 : decode cX1_init 13 = .ok (.newarray .int, 2) := by decide +kernel
theorem dX1_init_15 : decode cX1_init 15 = .ok (.putfield 15, 3) := by decide +kernel
theorem dX1_init_18 : decode cX1_init 18 = .ok (.aload_n 0, 1) := by decide +kernel
theorem dX1_init_19 : decode cX1_init 19 = .ok (.bipush 9, 2) := by decide +kernel
theorem dX1_init_21 : decode cX1_init 21 = .ok (.newarray .int, 2) := by decide +kernel
theorem dX1_init_23 : decode cX1_init 23 = .ok (.putfield 18, 3) := by decide +kernel
theorem dX1_init_26 : decode cX1_init 26 = .ok (.aload_n 0, 1) := by decide +kernel
theorem dX1_init_27 : decode cX1_init 27 = .ok (.bipush 9, 2) := by decide +kernel
theorem dX1_init_29 : decode cX1_init 29 = .ok (.newarray .int, 2) := by decide +kernel
theorem dX1_init_31 : decode cX1_init 31 = .ok (.putfield 21, 3) := by decide +kernel
theorem dX1_init_34 : decode cX1_init 34 = .ok (.aload_n 0, 1) := by decide +kernel
theorem dX1_init_35 : decode cX1_init 35 = .ok (.bipush 64, 2) := by decide +kernel
theorem dX1_init_37 : decode cX1_init 37 = .ok (.newarray .int, 2) := by decide +kernel
theorem dX1_init_39 : decode cX1_init 39 = .ok (.putfield 24, 3) := by decide +kernel
theorem dX1_init_42 : decode cX1_init 42 = .ok (.return_, 1) := by decide +kernel
theorem dX1_hasCentre_0 : decode cX1_hasCentre 0 = .ok (.iload_n 1, 1) := by decide +kernel
theorem dX1_hasCentre_1 : decode cX1_hasCentre 1 = .ok (.ifCond .lt 15, 3) := by decide +kernel
theorem dX1_hasCentre_4 : decode cX1_hasCentre 4 = .ok (.iload_n 1, 1) := by decide +kernel
theorem dX1_hasCentre_5 : decode cX1_hasCentre 5 = .ok (.aload_n 0, 1) := by decide +kernel
theorem dX1_hasCentre_6 : decode cX1_hasCentre 6 = .ok (.getfield 27, 3) := by decide +kernel
theorem dX1_hasCentre_9 : decode cX1_hasCentre 9 = .ok (.if_icmp .ge 7, 3) := by decide +kernel
theorem dX1_hasCentre_12 : decode cX1_hasCentre 12 = .ok (.iconst 1, 1) := by decide +kernel
theorem dX1_hasCentre_13 : decode cX1_hasCentre 13 = .ok (.goto 4, 3) := by decide +kernel
theorem dX1_hasCentre_16 : decode cX1_hasCentre 16 = .ok (.iconst 0, 1) := by decide +kernel
theorem dX1_hasCentre_17 : decode cX1_hasCentre 17 = .ok (.ireturn, 1) := by decide +kernel
theorem dX1_hasExaminer_0 : decode cX1_hasExaminer 0 = .ok (.iload_n 1, 1) := by decide +kernel
theorem dX1_hasExaminer_1 : decode cX1_hasExaminer 1 = .ok (.ifCond .lt 15, 3) := by decide +kernel
theorem dX1_hasExaminer_4 : decode cX1_hasExaminer 4 = .ok (.iload_n 1, 1) := by decide +kernel
theorem dX1_hasExaminer_5 : decode cX1_hasExaminer 5 = .ok (.aload_n 0, 1) := by decide +kernel
theorem dX1_hasExaminer_6 : decode cX1_hasExaminer 6 = .ok (.getfield 31, 3) := by decide +kernel
theorem dX1_hasExaminer_9 : decode cX1_hasExaminer 9 = .ok (.if_icmp .ge 7, 3) := by decide +kernel
theorem dX1_hasExaminer_12 : decode cX1_hasExaminer 12 = .ok (.iconst 1, 1) := by decide +kernel
theorem dX1_hasExaminer_13 : decode cX1_hasExaminer 13 = .ok (.goto 4, 3) := by decide +kernel
theorem dX1_hasExaminer_16 : decode cX1_hasExaminer 16 = .ok (.iconst 0, 1) := by decide +kernel
theorem dX1_hasExaminer_17 : decode cX1_hasExaminer 17 = .ok (.ireturn, 1) := by decide +kernel
theorem dX1_hasSession_0 : decode cX1_hasSession 0 = .ok (.iload_n 1, 1) := by decide +kernel
theorem dX1_hasSession_1 : decode cX1_hasSession 1 = .ok (.ifCond .lt 15, 3) := by decide +kernel
theorem dX1_hasSession_4 : decode cX1_hasSession 4 = .ok (.iload_n 1, 1) := by decide +kernel
theorem dX1_hasSession_5 : decode cX1_hasSession 5 = .ok (.aload_n 0, 1) := by decide +kernel
theorem dX1_hasSession_6 : decode cX1_hasSession 6 = .ok (.getfield 34, 3) := by decide +kernel
theorem dX1_hasSession_9 : decode cX1_hasSession 9 = .ok (.if_icmp .ge 7, 3) := by decide +kernel
theorem dX1_hasSession_12 : decode cX1_hasSession 12 = .ok (.iconst 1, 1) := by decide +kernel
theorem dX1_hasSession_13 : decode cX1_hasSession 13 = .ok (.goto 4, 3) := by decide +kernel
theorem dX1_hasSession_16 : decode cX1_hasSession 16 = .ok (.iconst 0, 1) := by decide +kernel
theorem dX1_hasSession_17 : decode cX1_hasSession 17 = .ok (.ireturn, 1) := by decide +kernel
theorem dX1_addCentre_0 : decode cX1_addCentre 0 = .ok (.aload_n 0, 1) := by decide +kernel
theorem dX1_addCentre_1 : decode cX1_addCentre 1 = .ok (.getfield 27, 3) := by decide +kernel
theorem dX1_addCentre_4 : decode cX1_addCentre 4 = .ok (.bipush 8, 2) := by decide +kernel
theorem dX1_addCentre_6 : decode cX1_addCentre 6 = .ok (.if_icmp .lt 5, 3) := by decide +kernel
theorem dX1_addCentre_9 : decode cX1_addCentre 9 = .ok (.iconst (-1), 1) := by decide +kernel
theorem dX1_addCentre_10 : decode cX1_addCentre 10 = .ok (.ireturn, 1) := by decide +kernel
theorem dX1_addCentre_11 : decode cX1_addCentre 11 = .ok (.aload_n 0, 1) := by decide +kernel
theorem dX1_addCentre_12 : decode cX1_addCentre 12 = .ok (.dup, 1) := by decide +kernel
theorem dX1_addCentre_13 : decode cX1_addCentre 13 = .ok (.getfield 27, 3) := by decide +kernel
theorem dX1_addCentre_16 : decode cX1_addCentre 16 = .ok (.iconst 1, 1) := by decide +kernel
theorem dX1_addCentre_17 : decode cX1_addCentre 17 = .ok (.iadd, 1) := by decide +kernel
theorem dX1_addCentre_18 : decode cX1_addCentre 18 = .ok (.putfield 27, 3) := by decide +kernel
theorem dX1_addCentre_21 : decode cX1_addCentre 21 = .ok (.aload_n 0, 1) := by decide +kernel
theorem dX1_addCentre_22 : decode cX1_addCentre 22 = .ok (.getfield 27, 3) := by decide +kernel
theorem dX1_addCentre_25 : decode cX1_addCentre 25 = .ok (.iconst 1, 1) := by decide +kernel
theorem dX1_addCentre_26 : decode cX1_addCentre 26 = .ok (.isub, 1) := by decide +kernel
theorem dX1_addCentre_27 : decode cX1_addCentre 27 = .ok (.ireturn, 1) := by decide +kernel
theorem dX1_addExaminer_0 : decode cX1_addExaminer 0 = .ok (.aload_n 0, 1) := by decide +kernel
theorem dX1_addExaminer_1 : decode cX1_addExaminer 1 = .ok (.getfield 31, 3) := by decide +kernel
theorem dX1_addExaminer_4 : decode cX1_addExaminer 4 = .ok (.iconst 5, 1) := by decide +kernel
theorem dX1_addExaminer_5 : decode cX1_addExaminer 5 = .ok (.if_icmp .lt 5, 3) := by decide +kernel
theorem dX1_addExaminer_8 : decode cX1_addExaminer 8 = .ok (.iconst (-1), 1) := by decide +kernel
theorem dX1_addExaminer_9 : decode cX1_addExaminer 9 = .ok (.ireturn, 1) := by decide +kernel
theorem dX1_addExaminer_10 : decode cX1_addExaminer 10 = .ok (.aload_n 0, 1) := by decide +kernel
theorem dX1_addExaminer_11 : decode cX1_addExaminer 11 = .ok (.getfield 9, 3) := by decide +kernel
theorem dX1_addExaminer_14 : decode cX1_addExaminer 14 = .ok (.aload_n 0, 1) := by decide +kernel
theorem dX1_addExaminer_15 : decode cX1_addExaminer 15 = .ok (.getfield 31, 3) := by decide +kernel
theorem dX1_addExaminer_18 : decode cX1_addExaminer 18 = .ok (.iload_n 1, 1) := by decide +kernel
theorem dX1_addExaminer_19 : decode cX1_addExaminer 19 = .ok (.iastore, 1) := by decide +kernel
theorem dX1_addExaminer_20 : decode cX1_addExaminer 20 = .ok (.aload_n 0, 1) := by decide +kernel
theorem dX1_addExaminer_21 : decode cX1_addExaminer 21 = .ok (.getfield 15, 3) := by decide +kernel
theorem dX1_addExaminer_24 : decode cX1_addExaminer 24 = .ok (.aload_n 0, 1) := by decide +kernel
theorem dX1_addExaminer_25 : decode cX1_addExaminer 25 = .ok (.getfield 31, 3) := by decide +kernel
theorem dX1_addExaminer_28 : decode cX1_addExaminer 28 = .ok (.iload_n 2, 1) := by decide +kernel
theorem dX1_addExaminer_29 : decode cX1_addExaminer 29 = .ok (.iastore, 1) := by decide +kernel
theorem dX1_addExaminer_30 : decode cX1_addExaminer 30 = .ok (.aload_n 0, 1) := by decide +kernel
theorem dX1_addExaminer_31 : decode cX1_addExaminer 31 = .ok (.dup, 1) := by decide +kernel
theorem dX1_addExaminer_32 : decode cX1_addExaminer 32 = .ok (.getfield 31, 3) := by decide +kernel
theorem dX1_addExaminer_35 : decode cX1_addExaminer 35 = .ok (.iconst 1, 1) := by decide +kernel
theorem dX1_addExaminer_36 : decode cX1_addExaminer 36 = .ok (.iadd, 1) := by decide +kernel
theorem dX1_addExaminer_37 : decode cX1_addExaminer 37 = .ok (.putfield 31, 3) := by decide +kernel
theorem dX1_addExaminer_40 : decode cX1_addExaminer 40 = .ok (.aload_n 0, 1) := by decide +kernel
theorem dX1_addExaminer_41 : decode cX1_addExaminer 41 = .ok (.getfield 31, 3) := by decide +kernel
theorem dX1_addExaminer_44 : decode cX1_addExaminer 44 = .ok (.iconst 1, 1) := by decide +kernel
theorem dX1_addExaminer_45 : decode cX1_addExaminer 45 = .ok (.isub, 1) := by decide +kernel
theorem dX1_addExaminer_46 : decode cX1_addExaminer 46 = .ok (.ireturn, 1) := by decide +kernel
theorem dX1_addSession_0 : decode cX1_addSession 0 = .ok (.aload_n 0, 1) := by decide +kernel
theorem dX1_addSession_1 : decode cX1_addSession 1 = .ok (.getfield 34, 3) := by decide +kernel
theorem dX1_addSession_4 : decode cX1_addSession 4 = .ok (.bipush 9, 2) := by decide +kernel
theorem dX1_addSession_6 : decode cX1_addSession 6 = .ok (.if_icmp .lt 5, 3) := by decide +kernel
theorem dX1_addSession_9 : decode cX1_addSession 9 = .ok (.iconst (-1), 1) := by decide +kernel
theorem dX1_addSession_10 : decode cX1_addSession 10 = .ok (.ireturn, 1) := by decide +kernel
theorem dX1_addSession_11 : decode cX1_addSession 11 = .ok (.aload_n 0, 1) := by decide +kernel
theorem dX1_addSession_12 : decode cX1_addSession 12 = .ok (.getfield 18, 3) := by decide +kernel
theorem dX1_addSession_15 : decode cX1_addSession 15 = .ok (.aload_n 0, 1) := by decide +kernel
theorem dX1_addSession_16 : decode cX1_addSession 16 = .ok (.getfield 34, 3) := by decide +kernel
theorem dX1_addSession_19 : decode cX1_addSession 19 = .ok (.iload_n 1, 1) := by decide +kernel
theorem dX1_addSession_20 : decode cX1_addSession 20 = .ok (.iastore, 1) := by decide +kernel
theorem dX1_addSession_21 : decode cX1_addSession 21 = .ok (.aload_n 0, 1) := by decide +kernel
theorem dX1_addSession_22 : decode cX1_addSession 22 = .ok (.getfield 21, 3) := by decide +kernel
theorem dX1_addSession_25 : decode cX1_addSession 25 = .ok (.aload_n 0, 1) := by decide +kernel
theorem dX1_addSession_26 : decode cX1_addSession 26 = .ok (.getfield 34, 3) := by decide +kernel
theorem dX1_addSession_29 : decode cX1_addSession 29 = .ok (.iload_n 2, 1) := by decide +kernel
theorem dX1_addSession_30 : decode cX1_addSession 30 = .ok (.iastore, 1) := by decide +kernel
theorem dX1_addSession_31 : decode cX1_addSession 31 = .ok (.aload_n 0, 1) := by decide +kernel
theorem dX1_addSession_32 : decode cX1_addSession 32 = .ok (.dup, 1) := by decide +kernel
theorem dX1_addSession_33 : decode cX1_addSession 33 = .ok (.getfield 34, 3) := by decide +kernel
theorem dX1_addSession_36 : decode cX1_addSession 36 = .ok (.iconst 1, 1) := by decide +kernel
theorem dX1_addSession_37 : decode cX1_addSession 37 = .ok (.iadd, 1) := by decide +kernel
theorem dX1_addSession_38 : decode cX1_addSession 38 = .ok (.putfield 34, 3) := by decide +kernel
theorem dX1_addSession_41 : decode cX1_addSession 41 = .ok (.aload_n 0, 1) := by decide +kernel
theorem dX1_addSession_42 : decode cX1_addSession 42 = .ok (.getfield 34, 3) := by decide +kernel
theorem dX1_addSession_45 : decode cX1_addSession 45 = .ok (.iconst 1, 1) := by decide +kernel
theorem dX1_addSession_46 : decode cX1_addSession 46 = .ok (.isub, 1) := by decide +kernel
theorem dX1_addSession_47 : decode cX1_addSession 47 = .ok (.ireturn, 1) := by decide +kernel
theorem dX1_setWay_0 : decode cX1_setWay 0 = .ok (.aload_n 0, 1) := by decide +kernel
theorem dX1_setWay_1 : decode cX1_setWay 1 = .ok (.getfield 24, 3) := by decide +kernel
theorem dX1_setWay_4 : decode cX1_setWay 4 = .ok (.iload_n 1, 1) := by decide +kernel
theorem dX1_setWay_5 : decode cX1_setWay 5 = .ok (.bipush 8, 2) := by decide +kernel
theorem dX1_setWay_7 : decode cX1_setWay 7 = .ok (.imul, 1) := by decide +kernel
theorem dX1_setWay_8 : decode cX1_setWay 8 = .ok (.iload_n 2, 1) := by decide +kernel
theorem dX1_setWay_9 : decode cX1_setWay 9 = .ok (.iadd, 1) := by decide +kernel
theorem dX1_setWay_10 : decode cX1_setWay 10 = .ok (.iload_n 3, 1) := by decide +kernel
theorem dX1_setWay_11 : decode cX1_setWay 11 = .ok (.iastore, 1) := by decide +kernel
theorem dX1_setWay_12 : decode cX1_setWay 12 = .ok (.aload_n 0, 1) := by decide +kernel
theorem dX1_setWay_13 : decode cX1_setWay 13 = .ok (.getfield 24, 3) := by decide +kernel
theorem dX1_setWay_16 : decode cX1_setWay 16 = .ok (.iload_n 2, 1) := by decide +kernel
theorem dX1_setWay_17 : decode cX1_setWay 17 = .ok (.bipush 8, 2) := by decide +kernel
theorem dX1_setWay_19 : decode cX1_setWay 19 = .ok (.imul, 1) := by decide +kernel
theorem dX1_setWay_20 : decode cX1_setWay 20 = .ok (.iload_n 1, 1) := by decide +kernel
theorem dX1_setWay_21 : decode cX1_setWay 21 = .ok (.iadd, 1) := by decide +kernel
theorem dX1_setWay_22 : decode cX1_setWay 22 = .ok (.iload_n 3, 1) := by decide +kernel
theorem dX1_setWay_23 : decode cX1_setWay 23 = .ok (.iastore, 1) := by decide +kernel
theorem dX1_setWay_24 : decode cX1_setWay 24 = .ok (.return_, 1) := by decide +kernel
theorem dX1_minutesBetween_0 : decode cX1_minutesBetween 0 = .ok (.aload_n 0, 1) := by decide +kernel
theorem dX1_minutesBetween_1 : decode cX1_minutesBetween 1 = .ok (.getfield 24, 3) := by decide +kernel
theorem dX1_minutesBetween_4 : decode cX1_minutesBetween 4 = .ok (.iload_n 1, 1) := by decide +kernel
theorem dX1_minutesBetween_5 : decode cX1_minutesBetween 5 = .ok (.bipush 8, 2) := by decide +kernel
theorem dX1_minutesBetween_7 : decode cX1_minutesBetween 7 = .ok (.imul, 1) := by decide +kernel
theorem dX1_minutesBetween_8 : decode cX1_minutesBetween 8 = .ok (.iload_n 2, 1) := by decide +kernel
theorem dX1_minutesBetween_9 : decode cX1_minutesBetween 9 = .ok (.iadd, 1) := by decide +kernel
theorem dX1_minutesBetween_10 : decode cX1_minutesBetween 10 = .ok (.iaload, 1) := by decide +kernel
theorem dX1_minutesBetween_11 : decode cX1_minutesBetween 11 = .ok (.ireturn, 1) := by decide +kernel
theorem dX1_plays_0 : decode cX1_plays 0 = .ok (.aload_n 0, 1) := by decide +kernel
theorem dX1_plays_1 : decode cX1_plays 1 = .ok (.getfield 15, 3) := by decide +kernel
theorem dX1_plays_4 : decode cX1_plays 4 = .ok (.iload_n 1, 1) := by decide +kernel
theorem dX1_plays_5 : decode cX1_plays 5 = .ok (.iaload, 1) := by decide +kernel
theorem dX1_plays_6 : decode cX1_plays 6 = .ok (.iload_n 2, 1) := by decide +kernel
theorem dX1_plays_7 : decode cX1_plays 7 = .ok (.ishr, 1) := by decide +kernel
theorem dX1_plays_8 : decode cX1_plays 8 = .ok (.iconst 1, 1) := by decide +kernel
theorem dX1_plays_9 : decode cX1_plays 9 = .ok (.iand, 1) := by decide +kernel
theorem dX1_plays_10 : decode cX1_plays 10 = .ok (.ifCond .eq 7, 3) := by decide +kernel
theorem dX1_plays_13 : decode cX1_plays 13 = .ok (.iconst 1, 1) := by decide +kernel
theorem dX1_plays_14 : decode cX1_plays 14 = .ok (.goto 4, 3) := by decide +kernel
theorem dX1_plays_17 : decode cX1_plays 17 = .ok (.iconst 0, 1) := by decide +kernel
theorem dX1_plays_18 : decode cX1_plays 18 = .ok (.ireturn, 1) := by decide +kernel
theorem dX2_init_0 : decode cX2_init 0 = .ok (.aload_n 0, 1) := by decide +kernel
theorem dX2_init_1 : decode cX2_init 1 = .ok (.invokespecial 3, 3) := by decide +kernel
theorem dX2_init_4 : decode cX2_init 4 = .ok (.aload_n 0, 1) := by decide +kernel
theorem dX2_init_5 : decode cX2_init 5 = .ok (.bipush 40, 2) := by decide +kernel
theorem dX2_init_7 : decode cX2_init 7 = .ok (.newarray .int, 2) := by decide +kernel
theorem dX2_init_9 : decode cX2_init 9 = .ok (.putfield 9, 3) := by decide +kernel
theorem dX2_init_12 : decode cX2_init 12 = .ok (.aload_n 0, 1) := by decide +kernel
theorem dX2_init_13 : decode cX2_init 13 = .ok (.bipush 40, 2) := by decide +kernel
theorem dX2_init_15 : decode cX2_init 15 = .ok (.newarray .int, 2) := by decide +kernel
theorem dX2_init_17 : decode cX2_init 17 = .ok (.putfield 15, 3) := by decide +kernel
theorem dX2_init_20 : decode cX2_init 20 = .ok (.aload_n 0, 1) := by decide +kernel
theorem dX2_init_21 : decode cX2_init 21 = .ok (.bipush 40, 2) := by decide +kernel
theorem dX2_init_23 : decode cX2_init 23 = .ok (.newarray .int, 2) := by decide +kernel
theorem dX2_init_25 : decode cX2_init 25 = .ok (.putfield 18, 3) := by decide +kernel
theorem dX2_init_28 : decode cX2_init 28 = .ok (.aload_n 0, 1) := by decide +kernel
theorem dX2_init_29 : decode cX2_init 29 = .ok (.bipush 40, 2) := by decide +kernel
theorem dX2_init_31 : decode cX2_init 31 = .ok (.newarray .int, 2) := by decide +kernel
theorem dX2_init_33 : decode cX2_init 33 = .ok (.putfield 21, 3) := by decide +kernel
theorem dX2_init_36 : decode cX2_init 36 = .ok (.aload_n 0, 1) := by decide +kernel
theorem dX2_init_37 : decode cX2_init 37 = .ok (.bipush 40, 2) := by decide +kernel
theorem dX2_init_39 : decode cX2_init 39 = .ok (.newarray .int, 2) := by decide +kernel
theorem dX2_init_41 : decode cX2_init 41 = .ok (.putfield 24, 3) := by decide +kernel
theorem dX2_init_44 : decode cX2_init 44 = .ok (.aload_n 0, 1) := by decide +kernel
theorem dX2_init_45 : decode cX2_init 45 = .ok (.bipush 40, 2) := by decide +kernel
theorem dX2_init_47 : decode cX2_init 47 = .ok (.newarray .int, 2) := by decide +kernel
theorem dX2_init_49 : decode cX2_init 49 = .ok (.putfield 27, 3) := by decide +kernel
theorem dX2_init_52 : decode cX2_init 52 = .ok (.aload_n 0, 1) := by decide +kernel
theorem dX2_init_53 : decode cX2_init 53 = .ok (.bipush 40, 2) := by decide +kernel
theorem dX2_init_55 : decode cX2_init 55 = .ok (.newarray .int, 2) := by decide +kernel
theorem dX2_init_57 : decode cX2_init 57 = .ok (.putfield 30, 3) := by decide +kernel
theorem dX2_init_60 : decode cX2_init 60 = .ok (.aload_n 0, 1) := by decide +kernel
theorem dX2_init_61 : decode cX2_init 61 = .ok (.bipush 40, 2) := by decide +kernel
theorem dX2_init_63 : decode cX2_init 63 = .ok (.newarray .int, 2) := by decide +kernel
theorem dX2_init_65 : decode cX2_init 65 = .ok (.putfield 33, 3) := by decide +kernel
theorem dX2_init_68 : decode cX2_init 68 = .ok (.aload_n 0, 1) := by decide +kernel
theorem dX2_init_69 : decode cX2_init 69 = .ok (.sipush 160, 3) := by decide +kernel
theorem dX2_init_72 : decode cX2_init 72 = .ok (.newarray .long, 2) := by decide +kernel
theorem dX2_init_74 : decode cX2_init 74 = .ok (.putfield 36, 3) := by decide +kernel
theorem dX2_init_77 : decode cX2_init 77 = .ok (.return_, 1) := by decide +kernel
theorem dX2_has_0 : decode cX2_has 0 = .ok (.iload_n 1, 1) := by decide +kernel
theorem dX2_has_1 : decode cX2_has 1 = .ok (.ifCond .lt 15, 3) := by decide +kernel
theorem dX2_has_4 : decode cX2_has 4 = .ok (.iload_n 1, 1) := by decide +kernel
theorem dX2_has_5 : decode cX2_has 5 = .ok (.aload_n 0, 1) := by decide +kernel
theorem dX2_has_6 : decode cX2_has 6 = .ok (.getfield 40, 3) := by decide +kernel
theorem dX2_has_9 : decode cX2_has 9 = .ok (.if_icmp .ge 7, 3) := by decide +kernel
theorem dX2_has_12 : decode cX2_has 12 = .ok (.iconst 1, 1) := by decide +kernel
theorem dX2_has_13 : decode cX2_has 13 = .ok (.goto 4, 3) := by decide +kernel
theorem dX2_has_16 : decode cX2_has 16 = .ok (.iconst 0, 1) := by decide +kernel
theorem dX2_has_17 : decode cX2_has 17 = .ok (.ireturn, 1) := by decide +kernel
theorem dX2_add_0 : decode cX2_add 0 = .ok (.aload_n 0, 1) := by decide +kernel
theorem dX2_add_1 : decode cX2_add 1 = .ok (.getfield 40, 3) := by decide +kernel
theorem dX2_add_4 : decode cX2_add 4 = .ok (.bipush 40, 2) := by decide +kernel
theorem dX2_add_6 : decode cX2_add 6 = .ok (.if_icmp .lt 5, 3) := by decide +kernel
theorem dX2_add_9 : decode cX2_add 9 = .ok (.iconst (-1), 1) := by decide +kernel
theorem dX2_add_10 : decode cX2_add 10 = .ok (.ireturn, 1) := by decide +kernel
theorem dX2_add_11 : decode cX2_add 11 = .ok (.aload_n 0, 1) := by decide +kernel
theorem dX2_add_12 : decode cX2_add 12 = .ok (.getfield 9, 3) := by decide +kernel
theorem dX2_add_15 : decode cX2_add 15 = .ok (.aload_n 0, 1) := by decide +kernel
theorem dX2_add_16 : decode cX2_add 16 = .ok (.getfield 40, 3) := by decide +kernel
theorem dX2_add_19 : decode cX2_add 19 = .ok (.iload_n 1, 1) := by decide +kernel
theorem dX2_add_20 : decode cX2_add 20 = .ok (.iastore, 1) := by decide +kernel
theorem dX2_add_21 : decode cX2_add 21 = .ok (.aload_n 0, 1) := by decide +kernel
theorem dX2_add_22 : decode cX2_add 22 = .ok (.getfield 15, 3) := by decide +kernel
theorem dX2_add_25 : decode cX2_add 25 = .ok (.aload_n 0, 1) := by decide +kernel
theorem dX2_add_26 : decode cX2_add 26 = .ok (.getfield 40, 3) := by decide +kernel
theorem dX2_add_29 : decode cX2_add 29 = .ok (.iload_n 2, 1) := by decide +kernel
theorem dX2_add_30 : decode cX2_add 30 = .ok (.iastore, 1) := by decide +kernel
theorem dX2_add_31 : decode cX2_add 31 = .ok (.aload_n 0, 1) := by decide +kernel
theorem dX2_add_32 : decode cX2_add 32 = .ok (.getfield 18, 3) := by decide +kernel
theorem dX2_add_35 : decode cX2_add 35 = .ok (.aload_n 0, 1) := by decide +kernel
theorem dX2_add_36 : decode cX2_add 36 = .ok (.getfield 40, 3) := by decide +kernel
theorem dX2_add_39 : decode cX2_add 39 = .ok (.iload_n 3, 1) := by decide +kernel
theorem dX2_add_40 : decode cX2_add 40 = .ok (.iastore, 1) := by decide +kernel
theorem dX2_add_41 : decode cX2_add 41 = .ok (.aload_n 0, 1) := by decide +kernel
theorem dX2_add_42 : decode cX2_add 42 = .ok (.getfield 21, 3) := by decide +kernel
theorem dX2_add_45 : decode cX2_add 45 = .ok (.aload_n 0, 1) := by decide +kernel
theorem dX2_add_46 : decode cX2_add 46 = .ok (.getfield 40, 3) := by decide +kernel
theorem dX2_add_49 : decode cX2_add 49 = .ok (.iload 4, 2) := by decide +kernel
theorem dX2_add_51 : decode cX2_add 51 = .ok (.iastore, 1) := by decide +kernel
theorem dX2_add_52 : decode cX2_add 52 = .ok (.aload_n 0, 1) := by decide +kernel
theorem dX2_add_53 : decode cX2_add 53 = .ok (.getfield 24, 3) := by decide +kernel
theorem dX2_add_56 : decode cX2_add 56 = .ok (.aload_n 0, 1) := by decide +kernel
theorem dX2_add_57 : decode cX2_add 57 = .ok (.getfield 40, 3) := by decide +kernel
theorem dX2_add_60 : decode cX2_add 60 = .ok (.iload 5, 2) := by decide +kernel
theorem dX2_add_62 : decode cX2_add 62 = .ok (.iastore, 1) := by decide +kernel
theorem dX2_add_63 : decode cX2_add 63 = .ok (.aload_n 0, 1) := by decide +kernel
theorem dX2_add_64 : decode cX2_add 64 = .ok (.getfield 27, 3) := by decide +kernel
theorem dX2_add_67 : decode cX2_add 67 = .ok (.aload_n 0, 1) := by decide +kernel
theorem dX2_add_68 : decode cX2_add 68 = .ok (.getfield 40, 3) := by decide +kernel
theorem dX2_add_71 : decode cX2_add 71 = .ok (.iload 6, 2) := by decide +kernel
theorem dX2_add_73 : decode cX2_add 73 = .ok (.iastore, 1) := by decide +kernel
theorem dX2_add_74 : decode cX2_add 74 = .ok (.aload_n 0, 1) := by decide +kernel
theorem dX2_add_75 : decode cX2_add 75 = .ok (.getfield 30, 3) := by decide +kernel
theorem dX2_add_78 : decode cX2_add 78 = .ok (.aload_n 0, 1) := by decide +kernel
theorem dX2_add_79 : decode cX2_add 79 = .ok (.getfield 40, 3) := by decide +kernel
theorem dX2_add_82 : decode cX2_add 82 = .ok (.iconst (-1), 1) := by decide +kernel
theorem dX2_add_83 : decode cX2_add 83 = .ok (.iastore, 1) := by decide +kernel
theorem dX2_add_84 : decode cX2_add 84 = .ok (.aload_n 0, 1) := by decide +kernel
theorem dX2_add_85 : decode cX2_add 85 = .ok (.dup, 1) := by decide +kernel
theorem dX2_add_86 : decode cX2_add 86 = .ok (.getfield 40, 3) := by decide +kernel
theorem dX2_add_89 : decode cX2_add 89 = .ok (.iconst 1, 1) := by decide +kernel
theorem dX2_add_90 : decode cX2_add 90 = .ok (.iadd, 1) := by decide +kernel
theorem dX2_add_91 : decode cX2_add 91 = .ok (.putfield 40, 3) := by decide +kernel
theorem dX2_add_94 : decode cX2_add 94 = .ok (.aload_n 0, 1) := by decide +kernel
theorem dX2_add_95 : decode cX2_add 95 = .ok (.getfield 40, 3) := by decide +kernel
theorem dX2_add_98 : decode cX2_add 98 = .ok (.iconst 1, 1) := by decide +kernel
theorem dX2_add_99 : decode cX2_add 99 = .ok (.isub, 1) := by decide +kernel
theorem dX2_add_100 : decode cX2_add 100 = .ok (.ireturn, 1) := by decide +kernel
theorem dX2_addPiece_0 : decode cX2_addPiece 0 = .ok (.aload_n 0, 1) := by decide +kernel
theorem dX2_addPiece_1 : decode cX2_addPiece 1 = .ok (.getfield 33, 3) := by decide +kernel
theorem dX2_addPiece_4 : decode cX2_addPiece 4 = .ok (.iload_n 1, 1) := by decide +kernel
theorem dX2_addPiece_5 : decode cX2_addPiece 5 = .ok (.iaload, 1) := by decide +kernel
theorem dX2_addPiece_6 : decode cX2_addPiece 6 = .ok (.istore 4, 2) := by decide +kernel
theorem dX2_addPiece_8 : decode cX2_addPiece 8 = .ok (.iload 4, 2) := by decide +kernel
theorem dX2_addPiece_10 : decode cX2_addPiece 10 = .ok (.iconst 4, 1) := by decide +kernel
theorem dX2_addPiece_11 : decode cX2_addPiece 11 = .ok (.if_icmp .lt 5, 3) := by decide +kernel
theorem dX2_addPiece_14 : decode cX2_addPiece 14 = .ok (.iconst (-1), 1) := by decide +kernel
theorem dX2_addPiece_15 : decode cX2_addPiece 15 = .ok (.ireturn, 1) := by decide +kernel
theorem dX2_addPiece_16 : decode cX2_addPiece 16 = .ok (.iconst 0, 1) := by decide +kernel
theorem dX2_addPiece_17 : decode cX2_addPiece 17 = .ok (.istore 5, 2) := by decide +kernel
theorem dX2_addPiece_19 : decode cX2_addPiece 19 = .ok (.iload 5, 2) := by decide +kernel
theorem dX2_addPiece_21 : decode cX2_addPiece 21 = .ok (.iload 4, 2) := by decide +kernel
theorem dX2_addPiece_23 : decode cX2_addPiece 23 = .ok (.if_icmp .ge 27, 3) := by decide +kernel
theorem dX2_addPiece_26 : decode cX2_addPiece 26 = .ok (.aload_n 0, 1) := by decide +kernel
theorem dX2_addPiece_27 : decode cX2_addPiece 27 = .ok (.getfield 36, 3) := by decide +kernel
theorem dX2_addPiece_30 : decode cX2_addPiece 30 = .ok (.iload_n 1, 1) := by decide +kernel
theorem dX2_addPiece_31 : decode cX2_addPiece 31 = .ok (.iconst 4, 1) := by decide +kernel
theorem dX2_addPiece_32 : decode cX2_addPiece 32 = .ok (.imul, 1) := by decide +kernel
theorem dX2_addPiece_33 : decode cX2_addPiece 33 = .ok (.iload 5, 2) := by decide +kernel
theorem dX2_addPiece_35 : decode cX2_addPiece 35 = .ok (.iadd, 1) := by decide +kernel
theorem dX2_addPiece_36 : decode cX2_addPiece 36 = .ok (.laload, 1) := by decide +kernel
theorem dX2_addPiece_37 : decode cX2_addPiece 37 = .ok (.lload_n 2, 1) := by decide +kernel
theorem dX2_addPiece_38 : decode cX2_addPiece 38 = .ok (.lcmp, 1) := by decide +kernel
theorem dX2_addPiece_39 : decode cX2_addPiece 39 = .ok (.ifCond .ne 5, 3) := by decide +kernel
theorem dX2_addPiece_42 : decode cX2_addPiece 42 = .ok (.iconst (-1), 1) := by decide +kernel
theorem dX2_addPiece_43 : decode cX2_addPiece 43 = .ok (.ireturn, 1) := by decide +kernel
theorem dX2_addPiece_44 : decode cX2_addPiece 44 = .ok (.iinc 5 1, 3) := by decide +kernel
theorem dX2_addPiece_47 : decode cX2_addPiece 47 = .ok (.goto (-28), 3) := by decide +kernel
theorem dX2_addPiece_50 : decode cX2_addPiece 50 = .ok (.aload_n 0, 1) := by decide +kernel
theorem dX2_addPiece_51 : decode cX2_addPiece 51 = .ok (.getfield 36, 3) := by decide +kernel
theorem dX2_addPiece_54 : decode cX2_addPiece 54 = .ok (.iload_n 1, 1) := by decide +kernel
theorem dX2_addPiece_55 : decode cX2_addPiece 55 = .ok (.iconst 4, 1) := by decide +kernel
theorem dX2_addPiece_56 : decode cX2_addPiece 56 = .ok (.imul, 1) := by decide +kernel
theorem dX2_addPiece_57 : decode cX2_addPiece 57 = .ok (.iload 4, 2) := by decide +kernel
theorem dX2_addPiece_59 : decode cX2_addPiece 59 = .ok (.iadd, 1) := by decide +kernel
theorem dX2_addPiece_60 : decode cX2_addPiece 60 = .ok (.lload_n 2, 1) := by decide +kernel
theorem dX2_addPiece_61 : decode cX2_addPiece 61 = .ok (.lastore, 1) := by decide +kernel
theorem dX2_addPiece_62 : decode cX2_addPiece 62 = .ok (.aload_n 0, 1) := by decide +kernel
theorem dX2_addPiece_63 : decode cX2_addPiece 63 = .ok (.getfield 33, 3) := by decide +kernel
theorem dX2_addPiece_66 : decode cX2_addPiece 66 = .ok (.iload_n 1, 1) := by decide +kernel
theorem dX2_addPiece_67 : decode cX2_addPiece 67 = .ok (.iload 4, 2) := by decide +kernel
theorem dX2_addPiece_69 : decode cX2_addPiece 69 = .ok (.iconst 1, 1) := by decide +kernel
theorem dX2_addPiece_70 : decode cX2_addPiece 70 = .ok (.iadd, 1) := by decide +kernel
theorem dX2_addPiece_71 : decode cX2_addPiece 71 = .ok (.iastore, 1) := by decide +kernel
theorem dX2_addPiece_72 : decode cX2_addPiece 72 = .ok (.iload 4, 2) := by decide +kernel
theorem dX2_addPiece_74 : decode cX2_addPiece 74 = .ok (.iconst 1, 1) := by decide +kernel
theorem dX2_addPiece_75 : decode cX2_addPiece 75 = .ok (.iadd, 1) := by decide +kernel
theorem dX2_addPiece_76 : decode cX2_addPiece 76 = .ok (.ireturn, 1) := by decide +kernel
theorem dX2_countListed_0 : decode cX2_countListed 0 = .ok (.iconst 0, 1) := by decide +kernel
theorem dX2_countListed_1 : decode cX2_countListed 1 = .ok (.istore 4, 2) := by decide +kernel
theorem dX2_countListed_3 : decode cX2_countListed 3 = .ok (.iconst 0, 1) := by decide +kernel
theorem dX2_countListed_4 : decode cX2_countListed 4 = .ok (.istore 5, 2) := by decide +kernel
theorem dX2_countListed_6 : decode cX2_countListed 6 = .ok (.iload 5, 2) := by decide +kernel
theorem dX2_countListed_8 : decode cX2_countListed 8 = .ok (.aload_n 0, 1) := by decide +kernel
theorem dX2_countListed_9 : decode cX2_countListed 9 = .ok (.getfield 33, 3) := by decide +kernel
theorem dX2_countListed_12 : decode cX2_countListed 12 = .ok (.iload_n 1, 1) := by decide +kernel
theorem dX2_countListed_13 : decode cX2_countListed 13 = .ok (.iaload, 1) := by decide +kernel
theorem dX2_countListed_14 : decode cX2_countListed 14 = .ok (.if_icmp .ge 38, 3) := by decide +kernel
theorem dX2_countListed_17 : decode cX2_countListed 17 = .ok (.iload 4, 2) := by decide +kernel
theorem dX2_countListed_19 : decode cX2_countListed 19 = .ok (.aload_n 2, 1) := by decide +kernel
theorem dX2_countListed_20 : decode cX2_countListed 20 = .ok (.iload_n 3, 1) := by decide +kernel
theorem dX2_countListed_21 : decode cX2_countListed 21 = .ok (.aload_n 0, 1) := by decide +kernel
theorem dX2_countListed_22 : decode cX2_countListed 22 = .ok (.getfield 36, 3) := by decide +kernel
theorem dX2_countListed_25 : decode cX2_countListed 25 = .ok (.iload_n 1, 1) := by decide +kernel
theorem dX2_countListed_26 : decode cX2_countListed 26 = .ok (.iconst 4, 1) := by decide +kernel
theorem dX2_countListed_27 : decode cX2_countListed 27 = .ok (.imul, 1) := by decide +kernel
theorem dX2_countListed_28 : decode cX2_countListed 28 = .ok (.iload 5, 2) := by decide +kernel
theorem dX2_countListed_30 : decode cX2_countListed 30 = .ok (.iadd, 1) := by decide +kernel
theorem dX2_countListed_31 : decode cX2_countListed 31 = .ok (.laload, 1) := by decide +kernel
theorem dX2_countListed_32 : decode cX2_countListed 32 = .ok (.invokevirtual 44, 3) := by decide +kernel
theorem dX2_countListed_35 : decode cX2_countListed 35 = .ok (.ifCond .eq 7, 3) := by decide +kernel
theorem dX2_countListed_38 : decode cX2_countListed 38 = .ok (.iconst 1, 1) := by decide +kernel
theorem dX2_countListed_39 : decode cX2_countListed 39 = .ok (.goto 4, 3) := by decide +kernel
theorem dX2_countListed_42 : decode cX2_countListed 42 = .ok (.iconst 0, 1) := by decide +kernel
theorem dX2_countListed_43 : decode cX2_countListed 43 = .ok (.iadd, 1) := by decide +kernel
theorem dX2_countListed_44 : decode cX2_countListed 44 = .ok (.istore 4, 2) := by decide +kernel
theorem dX2_countListed_46 : decode cX2_countListed 46 = .ok (.iinc 5 1, 3) := by decide +kernel
theorem dX2_countListed_49 : decode cX2_countListed 49 = .ok (.goto (-43), 3) := by decide +kernel
theorem dX2_countListed_52 : decode cX2_countListed 52 = .ok (.iload 4, 2) := by decide +kernel
theorem dX2_countListed_54 : decode cX2_countListed 54 = .ok (.ireturn, 1) := by decide +kernel
theorem dX2_countOwn_0 : decode cX2_countOwn 0 = .ok (.iconst 0, 1) := by decide +kernel
theorem dX2_countOwn_1 : decode cX2_countOwn 1 = .ok (.istore_n 3, 1) := by decide +kernel
theorem dX2_countOwn_2 : decode cX2_countOwn 2 = .ok (.iconst 0, 1) := by decide +kernel
theorem dX2_countOwn_3 : decode cX2_countOwn 3 = .ok (.istore 4, 2) := by decide +kernel
theorem dX2_countOwn_5 : decode cX2_countOwn 5 = .ok (.iload 4, 2) := by decide +kernel
theorem dX2_countOwn_7 : decode cX2_countOwn 7 = .ok (.aload_n 0, 1) := by decide +kernel
theorem dX2_countOwn_8 : decode cX2_countOwn 8 = .ok (.getfield 33, 3) := by decide +kernel
theorem dX2_countOwn_11 : decode cX2_countOwn 11 = .ok (.iload_n 1, 1) := by decide +kernel
theorem dX2_countOwn_12 : decode cX2_countOwn 12 = .ok (.iaload, 1) := by decide +kernel
theorem dX2_countOwn_13 : decode cX2_countOwn 13 = .ok (.if_icmp .ge 35, 3) := by decide +kernel
theorem dX2_countOwn_16 : decode cX2_countOwn 16 = .ok (.iload_n 3, 1) := by decide +kernel
theorem dX2_countOwn_17 : decode cX2_countOwn 17 = .ok (.aload_n 2, 1) := by decide +kernel
theorem dX2_countOwn_18 : decode cX2_countOwn 18 = .ok (.aload_n 0, 1) := by decide +kernel
theorem dX2_countOwn_19 : decode cX2_countOwn 19 = .ok (.getfield 36, 3) := by decide +kernel
theorem dX2_countOwn_22 : decode cX2_countOwn 22 = .ok (.iload_n 1, 1) := by decide +kernel
theorem dX2_countOwn_23 : decode cX2_countOwn 23 = .ok (.iconst 4, 1) := by decide +kernel
theorem dX2_countOwn_24 : decode cX2_countOwn 24 = .ok (.imul, 1) := by decide +kernel
theorem dX2_countOwn_25 : decode cX2_countOwn 25 = .ok (.iload 4, 2) := by decide +kernel
theorem dX2_countOwn_27 : decode cX2_countOwn 27 = .ok (.iadd, 1) := by decide +kernel
theorem dX2_countOwn_28 : decode cX2_countOwn 28 = .ok (.laload, 1) := by decide +kernel
theorem dX2_countOwn_29 : decode cX2_countOwn 29 = .ok (.invokevirtual 50, 3) := by decide +kernel
theorem dX2_countOwn_32 : decode cX2_countOwn 32 = .ok (.ifCond .eq 7, 3) := by decide +kernel
theorem dX2_countOwn_35 : decode cX2_countOwn 35 = .ok (.iconst 0, 1) := by decide +kernel
theorem dX2_countOwn_36 : decode cX2_countOwn 36 = .ok (.goto 4, 3) := by decide +kernel
theorem dX2_countOwn_39 : decode cX2_countOwn 39 = .ok (.iconst 1, 1) := by decide +kernel
theorem dX2_countOwn_40 : decode cX2_countOwn 40 = .ok (.iadd, 1) := by decide +kernel
theorem dX2_countOwn_41 : decode cX2_countOwn 41 = .ok (.istore_n 3, 1) := by decide +kernel
theorem dX2_countOwn_42 : decode cX2_countOwn 42 = .ok (.iinc 4 1, 3) := by decide +kernel
theorem dX2_countOwn_45 : decode cX2_countOwn 45 = .ok (.goto (-40), 3) := by decide +kernel
theorem dX2_countOwn_48 : decode cX2_countOwn 48 = .ok (.iload_n 3, 1) := by decide +kernel
theorem dX2_countOwn_49 : decode cX2_countOwn 49 = .ok (.ireturn, 1) := by decide +kernel
theorem dX2_countIn_0 : decode cX2_countIn 0 = .ok (.iconst 0, 1) := by decide +kernel
theorem dX2_countIn_1 : decode cX2_countIn 1 = .ok (.istore_n 2, 1) := by decide +kernel
theorem dX2_countIn_2 : decode cX2_countIn 2 = .ok (.iconst 0, 1) := by decide +kernel
theorem dX2_countIn_3 : decode cX2_countIn 3 = .ok (.istore_n 3, 1) := by decide +kernel
theorem dX2_countIn_4 : decode cX2_countIn 4 = .ok (.iload_n 3, 1) := by decide +kernel
theorem dX2_countIn_5 : decode cX2_countIn 5 = .ok (.aload_n 0, 1) := by decide +kernel
theorem dX2_countIn_6 : decode cX2_countIn 6 = .ok (.getfield 40, 3) := by decide +kernel
theorem dX2_countIn_9 : decode cX2_countIn 9 = .ok (.if_icmp .ge 27, 3) := by decide +kernel
theorem dX2_countIn_12 : decode cX2_countIn 12 = .ok (.iload_n 2, 1) := by decide +kernel
theorem dX2_countIn_13 : decode cX2_countIn 13 = .ok (.aload_n 0, 1) := by decide +kernel
theorem dX2_countIn_14 : decode cX2_countIn 14 = .ok (.getfield 30, 3) := by decide +kernel
theorem dX2_countIn_17 : decode cX2_countIn 17 = .ok (.iload_n 3, 1) := by decide +kernel
theorem dX2_countIn_18 : decode cX2_countIn 18 = .ok (.iaload, 1) := by decide +kernel
theorem dX2_countIn_19 : decode cX2_countIn 19 = .ok (.iload_n 1, 1) := by decide +kernel
theorem dX2_countIn_20 : decode cX2_countIn 20 = .ok (.if_icmp .ne 7, 3) := by decide +kernel
theorem dX2_countIn_23 : decode cX2_countIn 23 = .ok (.iconst 1, 1) := by decide +kernel
theorem dX2_countIn_24 : decode cX2_countIn 24 = .ok (.goto 4, 3) := by decide +kernel
theorem dX2_countIn_27 : decode cX2_countIn 27 = .ok (.iconst 0, 1) := by decide +kernel
theorem dX2_countIn_28 : decode cX2_countIn 28 = .ok (.iadd, 1) := by decide +kernel
theorem dX2_countIn_29 : decode cX2_countIn 29 = .ok (.istore_n 2, 1) := by decide +kernel
theorem dX2_countIn_30 : decode cX2_countIn 30 = .ok (.iinc 3 1, 3) := by decide +kernel
theorem dX2_countIn_33 : decode cX2_countIn 33 = .ok (.goto (-29), 3) := by decide +kernel
theorem dX2_countIn_36 : decode cX2_countIn 36 = .ok (.iload_n 2, 1) := by decide +kernel
theorem dX2_countIn_37 : decode cX2_countIn 37 = .ok (.ireturn, 1) := by decide +kernel
theorem dX3_init_0 : decode cX3_init 0 = .ok (.aload_n 0, 1) := by decide +kernel
theorem dX3_init_1 : decode cX3_init 1 = .ok (.invokespecial 3, 3) := by decide +kernel
theorem dX3_init_4 : decode cX3_init 4 = .ok (.aload_n 0, 1) := by decide +kernel
theorem dX3_init_5 : decode cX3_init 5 = .ok (.bipush 6, 2) := by decide +kernel
theorem dX3_init_7 : decode cX3_init 7 = .ok (.newarray .long, 2) := by decide +kernel
theorem dX3_init_9 : decode cX3_init 9 = .ok (.putfield 9, 3) := by decide +kernel
theorem dX3_init_12 : decode cX3_init 12 = .ok (.aload_n 0, 1) := by decide +kernel
theorem dX3_init_13 : decode cX3_init 13 = .ok (.bipush 6, 2) := by decide +kernel
theorem dX3_init_15 : decode cX3_init 15 = .ok (.newarray .int, 2) := by decide +kernel
theorem dX3_init_17 : decode cX3_init 17 = .ok (.putfield 15, 3) := by decide +kernel
theorem dX3_init_20 : decode cX3_init 20 = .ok (.aload_n 0, 1) := by decide +kernel
theorem dX3_init_21 : decode cX3_init 21 = .ok (.bipush 72, 2) := by decide +kernel
theorem dX3_init_23 : decode cX3_init 23 = .ok (.newarray .long, 2) := by decide +kernel
theorem dX3_init_25 : decode cX3_init 25 = .ok (.putfield 19, 3) := by decide +kernel
theorem dX3_init_28 : decode cX3_init 28 = .ok (.aload_n 0, 1) := by decide +kernel
theorem dX3_init_29 : decode cX3_init 29 = .ok (.bipush 6, 2) := by decide +kernel
theorem dX3_init_31 : decode cX3_init 31 = .ok (.newarray .long, 2) := by decide +kernel
theorem dX3_init_33 : decode cX3_init 33 = .ok (.putfield 22, 3) := by decide +kernel
theorem dX3_init_36 : decode cX3_init 36 = .ok (.aload_n 0, 1) := by decide +kernel
theorem dX3_init_37 : decode cX3_init 37 = .ok (.bipush 6, 2) := by decide +kernel
theorem dX3_init_39 : decode cX3_init 39 = .ok (.newarray .int, 2) := by decide +kernel
theorem dX3_init_41 : decode cX3_init 41 = .ok (.putfield 25, 3) := by decide +kernel
theorem dX3_init_44 : decode cX3_init 44 = .ok (.aload_n 0, 1) := by decide +kernel
theorem dX3_init_45 : decode cX3_init 45 = .ok (.bipush 8, 2) := by decide +kernel
theorem dX3_init_47 : decode cX3_init 47 = .ok (.newarray .int, 2) := by decide +kernel
theorem dX3_init_49 : decode cX3_init 49 = .ok (.putfield 28, 3) := by decide +kernel
theorem dX3_init_52 : decode cX3_init 52 = .ok (.return_, 1) := by decide +kernel
theorem dX3_clear_0 : decode cX3_clear 0 = .ok (.aload_n 0, 1) := by decide +kernel
theorem dX3_clear_1 : decode cX3_clear 1 = .ok (.iconst 0, 1) := by decide +kernel
theorem dX3_clear_2 : decode cX3_clear 2 = .ok (.putfield 31, 3) := by decide +kernel
theorem dX3_clear_5 : decode cX3_clear 5 = .ok (.aload_n 0, 1) := by decide +kernel
theorem dX3_clear_6 : decode cX3_clear 6 = .ok (.iconst 0, 1) := by decide +kernel
theorem dX3_clear_7 : decode cX3_clear 7 = .ok (.putfield 35, 3) := by decide +kernel
theorem dX3_clear_10 : decode cX3_clear 10 = .ok (.aload_n 0, 1) := by decide +kernel
theorem dX3_clear_11 : decode cX3_clear 11 = .ok (.iconst 0, 1) := by decide +kernel
theorem dX3_clear_12 : decode cX3_clear 12 = .ok (.putfield 39, 3) := by decide +kernel
theorem dX3_clear_15 : decode cX3_clear 15 = .ok (.aload_n 0, 1) := by decide +kernel
theorem dX3_clear_16 : decode cX3_clear 16 = .ok (.iconst 0, 1) := by decide +kernel
theorem dX3_clear_17 : decode cX3_clear 17 = .ok (.putfield 42, 3) := by decide +kernel
theorem dX3_clear_20 : decode cX3_clear 20 = .ok (.aload_n 0, 1) := by decide +kernel
theorem dX3_clear_21 : decode cX3_clear 21 = .ok (.iconst 0, 1) := by decide +kernel
theorem dX3_clear_22 : decode cX3_clear 22 = .ok (.putfield 45, 3) := by decide +kernel
theorem dX3_clear_25 : decode cX3_clear 25 = .ok (.aload_n 0, 1) := by decide +kernel
theorem dX3_clear_26 : decode cX3_clear 26 = .ok (.iconst (-1), 1) := by decide +kernel
theorem dX3_clear_27 : decode cX3_clear 27 = .ok (.putfield 48, 3) := by decide +kernel
theorem dX3_clear_30 : decode cX3_clear 30 = .ok (.aload_n 0, 1) := by decide +kernel
theorem dX3_clear_31 : decode cX3_clear 31 = .ok (.iconst (-1), 1) := by decide +kernel
theorem dX3_clear_32 : decode cX3_clear 32 = .ok (.putfield 51, 3) := by decide +kernel
theorem dX3_clear_35 : decode cX3_clear 35 = .ok (.return_, 1) := by decide +kernel
theorem dX3_minutesOrUsual_0 : decode cX3_minutesOrUsual 0 = .ok (.aload_n 0, 1) := by decide +kernel
theorem dX3_minutesOrUsual_1 : decode cX3_minutesOrUsual 1 = .ok (.getfield 45, 3) := by decide +kernel
theorem dX3_minutesOrUsual_4 : decode cX3_minutesOrUsual 4 = .ok (.ifCond .ne 8, 3) := by decide +kernel
theorem dX3_minutesOrUsual_7 : decode cX3_minutesOrUsual 7 = .ok (.bipush 10, 2) := by decide +kernel
theorem dX3_minutesOrUsual_9 : decode cX3_minutesOrUsual 9 = .ok (.goto 7, 3) := by decide +kernel
theorem dX3_minutesOrUsual_12 : decode cX3_minutesOrUsual 12 = .ok (.aload_n 0, 1) := by decide +kernel
theorem dX3_minutesOrUsual_13 : decode cX3_minutesOrUsual 13 = .ok (.getfield 45, 3) := by decide +kernel
theorem dX3_minutesOrUsual_16 : decode cX3_minutesOrUsual 16 = .ok (.ireturn, 1) := by decide +kernel
theorem dX3_findList_0 : decode cX3_findList 0 = .ok (.aload_n 0, 1) := by decide +kernel
theorem dX3_findList_1 : decode cX3_findList 1 = .ok (.getfield 9, 3) := by decide +kernel
theorem dX3_findList_4 : decode cX3_findList 4 = .ok (.aload_n 0, 1) := by decide +kernel
theorem dX3_findList_5 : decode cX3_findList 5 = .ok (.getfield 35, 3) := by decide +kernel
theorem dX3_findList_8 : decode cX3_findList 8 = .ok (.lload_n 1, 1) := by decide +kernel
theorem dX3_findList_9 : decode cX3_findList 9 = .ok (.invokestatic 54, 3) := by decide +kernel
theorem dX3_findList_12 : decode cX3_findList 12 = .ok (.ireturn, 1) := by decide +kernel
theorem dX3_findPart_0 : decode cX3_findPart 0 = .ok (.aload_n 0, 1) := by decide +kernel
theorem dX3_findPart_1 : decode cX3_findPart 1 = .ok (.getfield 22, 3) := by decide +kernel
theorem dX3_findPart_4 : decode cX3_findPart 4 = .ok (.aload_n 0, 1) := by decide +kernel
theorem dX3_findPart_5 : decode cX3_findPart 5 = .ok (.getfield 39, 3) := by decide +kernel
theorem dX3_findPart_8 : decode cX3_findPart 8 = .ok (.lload_n 1, 1) := by decide +kernel
theorem dX3_findPart_9 : decode cX3_findPart 9 = .ok (.invokestatic 54, 3) := by decide +kernel
theorem dX3_findPart_12 : decode cX3_findPart 12 = .ok (.ireturn, 1) := by decide +kernel
theorem dX3_addList_0 : decode cX3_addList 0 = .ok (.aload_n 0, 1) := by decide +kernel
theorem dX3_addList_1 : decode cX3_addList 1 = .ok (.getfield 35, 3) := by decide +kernel
theorem dX3_addList_4 : decode cX3_addList 4 = .ok (.bipush 6, 2) := by decide +kernel
theorem dX3_addList_6 : decode cX3_addList 6 = .ok (.if_icmp .ge 33, 3) := by decide +kernel
theorem dX3_addList_9 : decode cX3_addList 9 = .ok (.aload_n 0, 1) := by decide +kernel
theorem dX3_addList_10 : decode cX3_addList 10 = .ok (.getfield 9, 3) := by decide +kernel
theorem dX3_addList_13 : decode cX3_addList 13 = .ok (.aload_n 0, 1) := by decide +kernel
theorem dX3_addList_14 : decode cX3_addList 14 = .ok (.getfield 35, 3) := by decide +kernel
theorem dX3_addList_17 : decode cX3_addList 17 = .ok (.lload_n 1, 1) := by decide +kernel
theorem dX3_addList_18 : decode cX3_addList 18 = .ok (.lastore, 1) := by decide +kernel
theorem dX3_addList_19 : decode cX3_addList 19 = .ok (.aload_n 0, 1) := by decide +kernel
theorem dX3_addList_20 : decode cX3_addList 20 = .ok (.getfield 15, 3) := by decide +kernel
theorem dX3_addList_23 : decode cX3_addList 23 = .ok (.aload_n 0, 1) := by decide +kernel
theorem dX3_addList_24 : decode cX3_addList 24 = .ok (.getfield 35, 3) := by decide +kernel
theorem dX3_addList_27 : decode cX3_addList 27 = .ok (.iconst 0, 1) := by decide +kernel
theorem dX3_addList_28 : decode cX3_addList 28 = .ok (.iastore, 1) := by decide +kernel
theorem dX3_addList_29 : decode cX3_addList 29 = .ok (.aload_n 0, 1) := by decide +kernel
theorem dX3_addList_30 : decode cX3_addList 30 = .ok (.dup, 1) := by decide +kernel
theorem dX3_addList_31 : decode cX3_addList 31 = .ok (.getfield 35, 3) := by decide +kernel
theorem dX3_addList_34 : decode cX3_addList 34 = .ok (.iconst 1, 1) := by decide +kernel
theorem dX3_addList_35 : decode cX3_addList 35 = .ok (.iadd, 1) := by decide +kernel
theorem dX3_addList_36 : decode cX3_addList 36 = .ok (.putfield 35, 3) := by decide +kernel
theorem dX3_addList_39 : decode cX3_addList 39 = .ok (.return_, 1) := by decide +kernel
theorem dX3_addListed_0 : decode cX3_addListed 0 = .ok (.aload_n 0, 1) := by decide +kernel
theorem dX3_addListed_1 : decode cX3_addListed 1 = .ok (.getfield 35, 3) := by decide +kernel
theorem dX3_addListed_4 : decode cX3_addListed 4 = .ok (.iconst 1, 1) := by decide +kernel
theorem dX3_addListed_5 : decode cX3_addListed 5 = .ok (.isub, 1) := by decide +kernel
theorem dX3_addListed_6 : decode cX3_addListed 6 = .ok (.istore_n 3, 1) := by decide +kernel
theorem dX3_addListed_7 : decode cX3_addListed 7 = .ok (.iload_n 3, 1) := by decide +kernel
theorem dX3_addListed_8 : decode cX3_addListed 8 = .ok (.ifCond .lt 41, 3) := by decide +kernel
theorem dX3_addListed_11 : decode cX3_addListed 11 = .ok (.aload_n 0, 1) := by decide +kernel
theorem dX3_addListed_12 : decode cX3_addListed 12 = .ok (.getfield 15, 3) := by decide +kernel
theorem dX3_addListed_15 : decode cX3_addListed 15 = .ok (.iload_n 3, 1) := by decide +kernel
theorem dX3_addListed_16 : decode cX3_addListed 16 = .ok (.iaload, 1) := by decide +kernel
theorem dX3_addListed_17 : decode cX3_addListed 17 = .ok (.bipush 12, 2) := by decide +kernel
theorem dX3_addListed_19 : decode cX3_addListed 19 = .ok (.if_icmp .ge 30, 3) := by decide +kernel
theorem dX3_addListed_22 : decode cX3_addListed 22 = .ok (.aload_n 0, 1) := by decide +kernel
theorem dX3_addListed_23 : decode cX3_addListed 23 = .ok (.getfield 19, 3) := by decide +kernel
theorem dX3_addListed_26 : decode cX3_addListed 26 = .ok (.iload_n 3, 1) := by decide +kernel
theorem dX3_addListed_27 : decode cX3_addListed 27 = .ok (.bipush 12, 2) := by decide +kernel
theorem dX3_addListed_29 : decode cX3_addListed 29 = .ok (.imul, 1) := by decide +kernel
theorem dX3_addListed_30 : decode cX3_addListed 30 = .ok (.aload_n 0, 1) := by decide +kernel
theorem dX3_addListed_31 : decode cX3_addListed 31 = .ok (.getfield 15, 3) := by decide +kernel
theorem dX3_addListed_34 : decode cX3_addListed 34 = .ok (.iload_n 3, 1) := by decide +kernel
theorem dX3_addListed_35 : decode cX3_addListed 35 = .ok (.iaload, 1) := by decide +kernel
theorem dX3_addListed_36 : decode cX3_addListed 36 = .ok (.iadd, 1) := by decide +kernel
theorem dX3_addListed_37 : decode cX3_addListed 37 = .ok (.lload_n 1, 1) := by decide +kernel
theorem dX3_addListed_38 : decode cX3_addListed 38 = .ok (.lastore, 1) := by decide +kernel
theorem dX3_addListed_39 : decode cX3_addListed 39 = .ok (.aload_n 0, 1) := by decide +kernel
theorem dX3_addListed_40 : decode cX3_addListed 40 = .ok (.getfield 15, 3) := by decide +kernel
theorem dX3_addListed_43 : decode cX3_addListed 43 = .ok (.iload_n 3, 1) := by decide +kernel
theorem dX3_addListed_44 : decode cX3_addListed 44 = .ok (.dup2, 1) := by decide +kernel
theorem dX3_addListed_45 : decode cX3_addListed 45 = .ok (.iaload, 1) := by decide +kernel
theorem dX3_addListed_46 : decode cX3_addListed 46 = .ok (.iconst 1, 1) := by decide +kernel
theorem dX3_addListed_47 : decode cX3_addListed 47 = .ok (.iadd, 1) := by decide +kernel
theorem dX3_addListed_48 : decode cX3_addListed 48 = .ok (.iastore, 1) := by decide +kernel
theorem dX3_addListed_49 : decode cX3_addListed 49 = .ok (.return_, 1) := by decide +kernel
theorem dX3_isLastListFull_0 : decode cX3_isLastListFull 0 = .ok (.aload_n 0, 1) := by decide +kernel
theorem dX3_isLastListFull_1 : decode cX3_isLastListFull 1 = .ok (.getfield 35, 3) := by decide +kernel
theorem dX3_isLastListFull_4 : decode cX3_isLastListFull 4 = .ok (.ifCond .le 23, 3) := by decide +kernel
theorem dX3_isLastListFull_7 : decode cX3_isLastListFull 7 = .ok (.aload_n 0, 1) := by decide +kernel
theorem dX3_isLastListFull_8 : decode cX3_isLastListFull 8 = .ok (.getfield 15, 3) := by decide +kernel
theorem dX3_isLastListFull_11 : decode cX3_isLastListFull 11 = .ok (.aload_n 0, 1) := by decide +kernel
theorem dX3_isLastListFull_12 : decode cX3_isLastListFull 12 = .ok (.getfield 35, 3) := by decide +kernel
theorem dX3_isLastListFull_15 : decode cX3_isLastListFull 15 = .ok (.iconst 1, 1) := by decide +kernel
theorem dX3_isLastListFull_16 : decode cX3_isLastListFull 16 = .ok (.isub, 1) := by decide +kernel
theorem dX3_isLastListFull_17 : decode cX3_isLastListFull 17 = .ok (.iaload, 1) := by decide +kernel
theorem dX3_isLastListFull_18 : decode cX3_isLastListFull 18 = .ok (.bipush 12, 2) := by decide +kernel
theorem dX3_isLastListFull_20 : decode cX3_isLastListFull 20 = .ok (.if_icmp .lt 7, 3) := by decide +kernel
theorem dX3_isLastListFull_23 : decode cX3_isLastListFull 23 = .ok (.iconst 1, 1) := by decide +kernel
theorem dX3_isLastListFull_24 : decode cX3_isLastListFull 24 = .ok (.goto 4, 3) := by decide +kernel
theorem dX3_isLastListFull_27 : decode cX3_isLastListFull 27 = .ok (.iconst 0, 1) := by decide +kernel
theorem dX3_isLastListFull_28 : decode cX3_isLastListFull 28 = .ok (.ireturn, 1) := by decide +kernel
theorem dX3_addPart_0 : decode cX3_addPart 0 = .ok (.aload_n 0, 1) := by decide +kernel
theorem dX3_addPart_1 : decode cX3_addPart 1 = .ok (.getfield 39, 3) := by decide +kernel
theorem dX3_addPart_4 : decode cX3_addPart 4 = .ok (.bipush 6, 2) := by decide +kernel
theorem dX3_addPart_6 : decode cX3_addPart 6 = .ok (.if_icmp .ge 33, 3) := by decide +kernel
theorem dX3_addPart_9 : decode cX3_addPart 9 = .ok (.aload_n 0, 1) := by decide +kernel
theorem dX3_addPart_10 : decode cX3_addPart 10 = .ok (.getfield 22, 3) := by decide +kernel
theorem dX3_addPart_13 : decode cX3_addPart 13 = .ok (.aload_n 0, 1) := by decide +kernel
theorem dX3_addPart_14 : decode cX3_addPart 14 = .ok (.getfield 39, 3) := by decide +kernel
theorem dX3_addPart_17 : decode cX3_addPart 17 = .ok (.lload_n 1, 1) := by decide +kernel
theorem dX3_addPart_18 : decode cX3_addPart 18 = .ok (.lastore, 1) := by decide +kernel
theorem dX3_addPart_19 : decode cX3_addPart 19 = .ok (.aload_n 0, 1) := by decide +kernel
theorem dX3_addPart_20 : decode cX3_addPart 20 = .ok (.getfield 25, 3) := by decide +kernel
theorem dX3_addPart_23 : decode cX3_addPart 23 = .ok (.aload_n 0, 1) := by decide +kernel
theorem dX3_addPart_24 : decode cX3_addPart 24 = .ok (.getfield 39, 3) := by decide +kernel
theorem dX3_addPart_27 : decode cX3_addPart 27 = .ok (.iload_n 3, 1) := by decide +kernel
theorem dX3_addPart_28 : decode cX3_addPart 28 = .ok (.iastore, 1) := by decide +kernel
theorem dX3_addPart_29 : decode cX3_addPart 29 = .ok (.aload_n 0, 1) := by decide +kernel
theorem dX3_addPart_30 : decode cX3_addPart 30 = .ok (.dup, 1) := by decide +kernel
theorem dX3_addPart_31 : decode cX3_addPart 31 = .ok (.getfield 39, 3) := by decide +kernel
theorem dX3_addPart_34 : decode cX3_addPart 34 = .ok (.iconst 1, 1) := by decide +kernel
theorem dX3_addPart_35 : decode cX3_addPart 35 = .ok (.iadd, 1) := by decide +kernel
theorem dX3_addPart_36 : decode cX3_addPart 36 = .ok (.putfield 39, 3) := by decide +kernel
theorem dX3_addPart_39 : decode cX3_addPart 39 = .ok (.return_, 1) := by decide +kernel
theorem dX3_addRule_0 : decode cX3_addRule 0 = .ok (.iload_n 1, 1) := by decide +kernel
theorem dX3_addRule_1 : decode cX3_addRule 1 = .ok (.sipush 205, 3) := by decide +kernel
theorem dX3_addRule_4 : decode cX3_addRule 4 = .ok (.if_icmp .ne 11, 3) := by decide +kernel
theorem dX3_addRule_7 : decode cX3_addRule 7 = .ok (.aload_n 0, 1) := by decide +kernel
theorem dX3_addRule_8 : decode cX3_addRule 8 = .ok (.iload_n 2, 1) := by decide +kernel
theorem dX3_addRule_9 : decode cX3_addRule 9 = .ok (.putfield 48, 3) := by decide +kernel
theorem dX3_addRule_12 : decode cX3_addRule 12 = .ok (.goto 47, 3) := by decide +kernel
theorem dX3_addRule_15 : decode cX3_addRule 15 = .ok (.iload_n 1, 1) := by decide +kernel
theorem dX3_addRule_16 : decode cX3_addRule 16 = .ok (.sipush 206, 3) := by decide +kernel
theorem dX3_addRule_19 : decode cX3_addRule 19 = .ok (.if_icmp .ne 11, 3) := by decide +kernel
theorem dX3_addRule_22 : decode cX3_addRule 22 = .ok (.aload_n 0, 1) := by decide +kernel
theorem dX3_addRule_23 : decode cX3_addRule 23 = .ok (.iload_n 2, 1) := by decide +kernel
theorem dX3_addRule_24 : decode cX3_addRule 24 = .ok (.putfield 51, 3) := by decide +kernel
theorem dX3_addRule_27 : decode cX3_addRule 27 = .ok (.goto 32, 3) := by decide +kernel
theorem dX3_addRule_30 : decode cX3_addRule 30 = .ok (.aload_n 0, 1) := by decide +kernel
theorem dX3_addRule_31 : decode cX3_addRule 31 = .ok (.getfield 42, 3) := by decide +kernel
theorem dX3_addRule_34 : decode cX3_addRule 34 = .ok (.bipush 8, 2) := by decide +kernel
theorem dX3_addRule_36 : decode cX3_addRule 36 = .ok (.if_icmp .ge 23, 3) := by decide +kernel
theorem dX3_addRule_39 : decode cX3_addRule 39 = .ok (.aload_n 0, 1) := by decide +kernel
theorem dX3_addRule_40 : decode cX3_addRule 40 = .ok (.getfield 28, 3) := by decide +kernel
theorem dX3_addRule_43 : decode cX3_addRule 43 = .ok (.aload_n 0, 1) := by decide +kernel
theorem dX3_addRule_44 : decode cX3_addRule 44 = .ok (.getfield 42, 3) := by decide +kernel
theorem dX3_addRule_47 : decode cX3_addRule 47 = .ok (.iload_n 2, 1) := by decide +kernel
theorem dX3_addRule_48 : decode cX3_addRule 48 = .ok (.iastore, 1) := by decide +kernel
theorem dX3_addRule_49 : decode cX3_addRule 49 = .ok (.aload_n 0, 1) := by decide +kernel
theorem dX3_addRule_50 : decode cX3_addRule 50 = .ok (.dup, 1) := by decide +kernel
theorem dX3_addRule_51 : decode cX3_addRule 51 = .ok (.getfield 42, 3) := by decide +kernel
theorem dX3_addRule_54 : decode cX3_addRule 54 = .ok (.iconst 1, 1) := by decide +kernel
theorem dX3_addRule_55 : decode cX3_addRule 55 = .ok (.iadd, 1) := by decide +kernel
theorem dX3_addRule_56 : decode cX3_addRule 56 = .ok (.putfield 42, 3) := by decide +kernel
theorem dX3_addRule_59 : decode cX3_addRule 59 = .ok (.return_, 1) := by decide +kernel
theorem dX3_isListed_0 : decode cX3_isListed 0 = .ok (.iload_n 1, 1) := by decide +kernel
theorem dX3_isListed_1 : decode cX3_isListed 1 = .ok (.ifCond .lt 11, 3) := by decide +kernel
theorem dX3_isListed_4 : decode cX3_isListed 4 = .ok (.iload_n 1, 1) := by decide +kernel
theorem dX3_isListed_5 : decode cX3_isListed 5 = .ok (.aload_n 0, 1) := by decide +kernel
theorem dX3_isListed_6 : decode cX3_isListed 6 = .ok (.getfield 35, 3) := by decide +kernel
theorem dX3_isListed_9 : decode cX3_isListed 9 = .ok (.if_icmp .lt 5, 3) := by decide +kernel
theorem dX3_isListed_12 : decode cX3_isListed 12 = .ok (.iconst 0, 1) := by decide +kernel
theorem dX3_isListed_13 : decode cX3_isListed 13 = .ok (.ireturn, 1) := by decide +kernel
theorem dX3_isListed_14 : decode cX3_isListed 14 = .ok (.iconst 0, 1) := by decide +kernel
theorem dX3_isListed_15 : decode cX3_isListed 15 = .ok (.istore 4, 2) := by decide +kernel
theorem dX3_isListed_17 : decode cX3_isListed 17 = .ok (.iload 4, 2) := by decide +kernel
theorem dX3_isListed_19 : decode cX3_isListed 19 = .ok (.aload_n 0, 1) := by decide +kernel
theorem dX3_isListed_20 : decode cX3_isListed 20 = .ok (.getfield 15, 3) := by decide +kernel
theorem dX3_isListed_23 : decode cX3_isListed 23 = .ok (.iload_n 1, 1) := by decide +kernel
theorem dX3_isListed_24 : decode cX3_isListed 24 = .ok (.iaload, 1) := by decide +kernel
theorem dX3_isListed_25 : decode cX3_isListed 25 = .ok (.if_icmp .ge 28, 3) := by decide +kernel
theorem dX3_isListed_28 : decode cX3_isListed 28 = .ok (.aload_n 0, 1) := by decide +kernel
theorem dX3_isListed_29 : decode cX3_isListed 29 = .ok (.getfield 19, 3) := by decide +kernel
theorem dX3_isListed_32 : decode cX3_isListed 32 = .ok (.iload_n 1, 1) := by decide +kernel
theorem dX3_isListed_33 : decode cX3_isListed 33 = .ok (.bipush 12, 2) := by decide +kernel
theorem dX3_isListed_35 : decode cX3_isListed 35 = .ok (.imul, 1) := by decide +kernel
theorem dX3_isListed_36 : decode cX3_isListed 36 = .ok (.iload 4, 2) := by decide +kernel
theorem dX3_isListed_38 : decode cX3_isListed 38 = .ok (.iadd, 1) := by decide +kernel
theorem dX3_isListed_39 : decode cX3_isListed 39 = .ok (.laload, 1) := by decide +kernel
theorem dX3_isListed_40 : decode cX3_isListed 40 = .ok (.lload_n 2, 1) := by decide +kernel
theorem dX3_isListed_41 : decode cX3_isListed 41 = .ok (.lcmp, 1) := by decide +kernel
theorem dX3_isListed_42 : decode cX3_isListed 42 = .ok (.ifCond .ne 5, 3) := by decide +kernel
theorem dX3_isListed_45 : decode cX3_isListed 45 = .ok (.iconst 1, 1) := by decide +kernel
theorem dX3_isListed_46 : decode cX3_isListed 46 = .ok (.ireturn, 1) := by decide +kernel
theorem dX3_isListed_47 : decode cX3_isListed 47 = .ok (.iinc 4 1, 3) := by decide +kernel
theorem dX3_isListed_50 : decode cX3_isListed 50 = .ok (.goto (-33), 3) := by decide +kernel
theorem dX3_isListed_53 : decode cX3_isListed 53 = .ok (.iconst 0, 1) := by decide +kernel
theorem dX3_isListed_54 : decode cX3_isListed 54 = .ok (.ireturn, 1) := by decide +kernel
theorem dX3_isListedAnywhere_0 : decode cX3_isListedAnywhere 0 = .ok (.iconst 0, 1) := by decide +kernel
theorem dX3_isListedAnywhere_1 : decode cX3_isListedAnywhere 1 = .ok (.istore_n 3, 1) := by decide +kernel
theorem dX3_isListedAnywhere_2 : decode cX3_isListedAnywhere 2 = .ok (.iload_n 3, 1) := by decide +kernel
theorem dX3_isListedAnywhere_3 : decode cX3_isListedAnywhere 3 = .ok (.aload_n 0, 1) := by decide +kernel
theorem dX3_isListedAnywhere_4 : decode cX3_isListedAnywhere 4 = .ok (.getfield 35, 3) := by decide +kernel
theorem dX3_isListedAnywhere_7 : decode cX3_isListedAnywhere 7 = .ok (.if_icmp .ge 48, 3) := by decide +kernel
theorem dX3_isListedAnywhere_10 : decode cX3_isListedAnywhere 10 = .ok (.iconst 0, 1) := by decide +kernel
theorem dX3_isListedAnywhere_11 : decode cX3_isListedAnywhere 11 = .ok (.istore 4, 2) := by decide +kernel
theorem dX3_isListedAnywhere_13 : decode cX3_isListedAnywhere 13 = .ok (.iload 4, 2) := by decide +kernel
theorem dX3_isListedAnywhere_15 : decode cX3_isListedAnywhere 15 = .ok (.aload_n 0, 1) := by decide +kernel
theorem dX3_isListedAnywhere_16 : decode cX3_isListedAnywhere 16 = .ok (.getfield 15, 3) := by decide +kernel
theorem dX3_isListedAnywhere_19 : decode cX3_isListedAnywhere 19 = .ok (.iload_n 3, 1) := by decide +kernel
theorem dX3_isListedAnywhere_20 : decode cX3_isListedAnywhere 20 = .ok (.iaload, 1) := by decide +kernel
theorem dX3_isListedAnywhere_21 : decode cX3_isListedAnywhere 21 = .ok (.if_icmp .ge 28, 3) := by decide +kernel
theorem dX3_isListedAnywhere_24 : decode cX3_isListedAnywhere 24 = .ok (.aload_n 0, 1) := by decide +kernel
theorem dX3_isListedAnywhere_25 : decode cX3_isListedAnywhere 25 = .ok (.getfield 19, 3) := by decide +kernel
theorem dX3_isListedAnywhere_28 : decode cX3_isListedAnywhere 28 = .ok (.iload_n 3, 1) := by decide +kernel
theorem dX3_isListedAnywhere_29 : decode cX3_isListedAnywhere 29 = .ok (.bipush 12, 2) := by decide +kernel
theorem dX3_isListedAnywhere_31 : decode cX3_isListedAnywhere 31 = .ok (.imul, 1) := by decide +kernel
theorem dX3_isListedAnywhere_32 : decode cX3_isListedAnywhere 32 = .ok (.iload 4, 2) := by decide +kernel
theorem dX3_isListedAnywhere_34 : decode cX3_isListedAnywhere 34 = .ok (.iadd, 1) := by decide +kernel
theorem dX3_isListedAnywhere_35 : decode cX3_isListedAnywhere 35 = .ok (.laload, 1) := by decide +kernel
theorem dX3_isListedAnywhere_36 : decode cX3_isListedAnywhere 36 = .ok (.lload_n 1, 1) := by decide +kernel
theorem dX3_isListedAnywhere_37 : decode cX3_isListedAnywhere 37 = .ok (.lcmp, 1) := by decide +kernel
theorem dX3_isListedAnywhere_38 : decode cX3_isListedAnywhere 38 = .ok (.ifCond .ne 5, 3) := by decide +kernel
theorem dX3_isListedAnywhere_41 : decode cX3_isListedAnywhere 41 = .ok (.iconst 1, 1) := by decide +kernel
theorem dX3_isListedAnywhere_42 : decode cX3_isListedAnywhere 42 = .ok (.ireturn, 1) := by decide +kernel
theorem dX3_isListedAnywhere_43 : decode cX3_isListedAnywhere 43 = .ok (.iinc 4 1, 3) := by decide +kernel
theorem dX3_isListedAnywhere_46 : decode cX3_isListedAnywhere 46 = .ok (.goto (-33), 3) := by decide +kernel
theorem dX3_isListedAnywhere_49 : decode cX3_isListedAnywhere 49 = .ok (.iinc 3 1, 3) := by decide +kernel
theorem dX3_isListedAnywhere_52 : decode cX3_isListedAnywhere 52 = .ok (.goto (-50), 3) := by decide +kernel
theorem dX3_isListedAnywhere_55 : decode cX3_isListedAnywhere 55 = .ok (.iconst 0, 1) := by decide +kernel
theorem dX3_isListedAnywhere_56 : decode cX3_isListedAnywhere 56 = .ok (.ireturn, 1) := by decide +kernel
theorem dX3_find_0 : decode cX3_find 0 = .ok (.iconst 0, 1) := by decide +kernel
theorem dX3_find_1 : decode cX3_find 1 = .ok (.istore 4, 2) := by decide +kernel
theorem dX3_find_3 : decode cX3_find 3 = .ok (.iload 4, 2) := by decide +kernel
theorem dX3_find_5 : decode cX3_find 5 = .ok (.iload_n 1, 1) := by decide +kernel
theorem dX3_find_6 : decode cX3_find 6 = .ok (.if_icmp .ge 28, 3) := by decide +kernel
theorem dX3_find_9 : decode cX3_find 9 = .ok (.iload 4, 2) := by decide +kernel
theorem dX3_find_11 : decode cX3_find 11 = .ok (.aload_n 0, 1) := by decide +kernel
theorem dX3_find_12 : decode cX3_find 12 = .ok (.arraylength, 1) := by decide +kernel
theorem dX3_find_13 : decode cX3_find 13 = .ok (.if_icmp .ge 21, 3) := by decide +kernel
theorem dX3_find_16 : decode cX3_find 16 = .ok (.aload_n 0, 1) := by decide +kernel
theorem dX3_find_17 : decode cX3_find 17 = .ok (.iload 4, 2) := by decide +kernel
theorem dX3_find_19 : decode cX3_find 19 = .ok (.laload, 1) := by decide +kernel
theorem dX3_find_20 : decode cX3_find 20 = .ok (.lload_n 2, 1) := by decide +kernel
theorem dX3_find_21 : decode cX3_find 21 = .ok (.lcmp, 1) := by decide +kernel
theorem dX3_find_22 : decode cX3_find 22 = .ok (.ifCond .ne 6, 3) := by decide +kernel
theorem dX3_find_25 : decode cX3_find 25 = .ok (.iload 4, 2) := by decide +kernel
theorem dX3_find_27 : decode cX3_find 27 = .ok (.ireturn, 1) := by decide +kernel
theorem dX3_find_28 : decode cX3_find 28 = .ok (.iinc 4 1, 3) := by decide +kernel
theorem dX3_find_31 : decode cX3_find 31 = .ok (.goto (-28), 3) := by decide +kernel
theorem dX3_find_34 : decode cX3_find 34 = .ok (.iconst (-1), 1) := by decide +kernel
theorem dX3_find_35 : decode cX3_find 35 = .ok (.ireturn, 1) := by decide +kernel
theorem dX4_init_0 : decode cX4_init 0 = .ok (.aload_n 0, 1) := by decide +kernel
theorem dX4_init_1 : decode cX4_init 1 = .ok (.invokespecial 3, 3) := by decide +kernel
theorem dX4_init_4 : decode cX4_init 4 = .ok (.aload_n 0, 1) := by decide +kernel
theorem dX4_init_5 : decode cX4_init 5 = .ok (.bipush 6, 2) := by decide +kernel
theorem dX4_init_7 : decode cX4_init 7 = .ok (.newarray .int, 2) := by decide +kernel
theorem dX4_init_9 : decode cX4_init 9 = .ok (.putfield 9, 3) := by decide +kernel
theorem dX4_init_12 : decode cX4_init 12 = .ok (.aload_n 0, 1) := by decide +kernel
theorem dX4_init_13 : decode cX4_init 13 = .ok (.sipush 150, 3) := by decide +kernel
theorem dX4_init_16 : decode cX4_init 16 = .ok (.newarray .int, 2) := by decide +kernel
theorem dX4_init_18 : decode cX4_init 18 = .ok (.putfield 15, 3) := by decide +kernel
theorem dX4_init_21 : decode cX4_init 21 = .ok (.return_, 1) := by decide +kernel
theorem dX4_work_0 : decode cX4_work 0 = .ok (.aload_n 0, 1) := by decide +kernel
theorem dX4_work_1 : decode cX4_work 1 = .ok (.iconst 0, 1) := by decide +kernel
theorem dX4_work_2 : decode cX4_work 2 = .ok (.putfield 18, 3) := by decide +kernel
theorem dX4_work_5 : decode cX4_work 5 = .ok (.iload 5, 2) := by decide +kernel
theorem dX4_work_7 : decode cX4_work 7 = .ok (.iconst 0, 1) := by decide +kernel
theorem dX4_work_8 : decode cX4_work 8 = .ok (.invokestatic 22, 3) := by decide +kernel
theorem dX4_work_11 : decode cX4_work 11 = .ok (.istore 6, 2) := by decide +kernel
theorem dX4_work_13 : decode cX4_work 13 = .ok (.iload 6, 2) := by decide +kernel
theorem dX4_work_15 : decode cX4_work 15 = .ok (.aload_n 1, 1) := by decide +kernel
theorem dX4_work_16 : decode cX4_work 16 = .ok (.getfield 28, 3) := by decide +kernel
theorem dX4_work_19 : decode cX4_work 19 = .ok (.if_icmp .ge 164, 3) := by decide +kernel
theorem dX4_work_22 : decode cX4_work 22 = .ok (.aload_n 1, 1) := by decide +kernel
theorem dX4_work_23 : decode cX4_work 23 = .ok (.getfield 33, 3) := by decide +kernel
theorem dX4_work_26 : decode cX4_work 26 = .ok (.iload 6, 2) := by decide +kernel
theorem dX4_work_28 : decode cX4_work 28 = .ok (.iaload, 1) := by decide +kernel
theorem dX4_work_29 : decode cX4_work 29 = .ok (.bipush 20, 2) := by decide +kernel
theorem dX4_work_31 : decode cX4_work 31 = .ok (.ishr, 1) := by decide +kernel
theorem dX4_work_32 : decode cX4_work 32 = .ok (.istore 7, 2) := by decide +kernel
theorem dX4_work_34 : decode cX4_work 34 = .ok (.aload_n 1, 1) := by decide +kernel
theorem dX4_work_35 : decode cX4_work 35 = .ok (.getfield 33, 3) := by decide +kernel
theorem dX4_work_38 : decode cX4_work 38 = .ok (.iload 6, 2) := by decide +kernel
theorem dX4_work_40 : decode cX4_work 40 = .ok (.iaload, 1) := by decide +kernel
theorem dX4_work_41 : decode cX4_work 41 = .ok (.ldc 36, 2) := by decide +kernel
theorem dX4_work_43 : decode cX4_work 43 = .ok (.iand, 1) := by decide +kernel
theorem dX4_work_44 : decode cX4_work 44 = .ok (.istore 8, 2) := by decide +kernel
theorem dX4_work_46 : decode cX4_work 46 = .ok (.iload 7, 2) := by decide +kernel
theorem dX4_work_48 : decode cX4_work 48 = .ok (.bipush 59, 2) := by decide +kernel
theorem dX4_work_50 : decode cX4_work 50 = .ok (.if_icmp .ne 6, 3) := by decide +kernel
theorem dX4_work_53 : decode cX4_work 53 = .ok (.goto 130, 3) := by decide +kernel
theorem dX4_work_56 : decode cX4_work 56 = .ok (.iload 7, 2) := by decide +kernel
theorem dX4_work_58 : decode cX4_work 58 = .ok (.iconst 2, 1) := by decide +kernel
theorem dX4_work_59 : decode cX4_work 59 = .ok (.if_icmp .eq 19, 3) := by decide +kernel
theorem dX4_work_62 : decode cX4_work 62 = .ok (.iload 7, 2) := by decide +kernel
theorem dX4_work_64 : decode cX4_work 64 = .ok (.sipush 202, 3) := by decide +kernel
theorem dX4_work_67 : decode cX4_work 67 = .ok (.if_icmp .eq 11, 3) := by decide +kernel
theorem dX4_work_70 : decode cX4_work 70 = .ok (.iload 7, 2) := by decide +kernel
theorem dX4_work_72 : decode cX4_work 72 = .ok (.sipush 213, 3) := by decide +kernel
theorem dX4_work_75 : decode cX4_work 75 = .ok (.if_icmp .lt 19, 3) := by decide +kernel
theorem dX4_work_78 : decode cX4_work 78 = .ok (.aload_n 0, 1) := by decide +kernel
theorem dX4_work_79 : decode cX4_work 79 = .ok (.aload_n 0, 1) := by decide +kernel
theorem dX4_work_80 : decode cX4_work 80 = .ok (.iload 7, 2) := by decide +kernel
theorem dX4_work_82 : decode cX4_work 82 = .ok (.iload 8, 2) := by decide +kernel
theorem dX4_work_84 : decode cX4_work 84 = .ok (.aload_n 2, 1) := by decide +kernel
theorem dX4_work_85 : decode cX4_work 85 = .ok (.invokevirtual 37, 3) := by decide +kernel
theorem dX4_work_88 : decode cX4_work 88 = .ok (.invokevirtual 41, 3) := by decide +kernel
theorem dX4_work_91 : decode cX4_work 91 = .ok (.goto 86, 3) := by decide +kernel
theorem dX4_work_94 : decode cX4_work 94 = .ok (.iload 7, 2) := by decide +kernel
theorem dX4_work_96 : decode cX4_work 96 = .ok (.sipush 201, 3) := by decide +kernel
theorem dX4_work_99 : decode cX4_work 99 = .ok (.if_icmp .eq 11, 3) := by decide +kernel
theorem dX4_work_102 : decode cX4_work 102 = .ok (.iload 7, 2) := by decide +kernel
theorem dX4_work_104 : decode cX4_work 104 = .ok (.sipush 210, 3) := by decide +kernel
theorem dX4_work_107 : decode cX4_work 107 = .ok (.if_icmp .lt 22, 3) := by decide +kernel
theorem dX4_work_110 : decode cX4_work 110 = .ok (.aload_n 0, 1) := by decide +kernel
theorem dX4_work_111 : decode cX4_work 111 = .ok (.aload_n 0, 1) := by decide +kernel
theorem dX4_work_112 : decode cX4_work 112 = .ok (.iload 7, 2) := by decide +kernel
theorem dX4_work_114 : decode cX4_work 114 = .ok (.iload 8, 2) := by decide +kernel
theorem dX4_work_116 : decode cX4_work 116 = .ok (.aload_n 2, 1) := by decide +kernel
theorem dX4_work_117 : decode cX4_work 117 = .ok (.aload_n 3, 1) := by decide +kernel
theorem dX4_work_118 : decode cX4_work 118 = .ok (.iload 4, 2) := by decide +kernel
theorem dX4_work_120 : decode cX4_work 120 = .ok (.invokevirtual 45, 3) := by decide +kernel
theorem dX4_work_123 : decode cX4_work 123 = .ok (.invokevirtual 41, 3) := by decide +kernel
theorem dX4_work_126 : decode cX4_work 126 = .ok (.goto 51, 3) := by decide +kernel
theorem dX4_work_129 : decode cX4_work 129 = .ok (.iload 7, 2) := by decide +kernel
theorem dX4_work_131 : decode cX4_work 131 = .ok (.sipush 209, 3) := by decide +kernel
theorem dX4_work_134 : decode cX4_work 134 = .ok (.if_icmp .ne 22, 3) := by decide +kernel
theorem dX4_work_137 : decode cX4_work 137 = .ok (.aload_n 0, 1) := by decide +kernel
theorem dX4_work_138 : decode cX4_work 138 = .ok (.aload_n 0, 1) := by decide +kernel
theorem dX4_work_139 : decode cX4_work 139 = .ok (.invokevirtual 49, 3) := by decide +kernel
theorem dX4_work_142 : decode cX4_work 142 = .ok (.ifCond .ne 7, 3) := by decide +kernel
theorem dX4_work_145 : decode cX4_work 145 = .ok (.iconst 1, 1) := by decide +kernel
theorem dX4_work_146 : decode cX4_work 146 = .ok (.goto 4, 3) := by decide +kernel
theorem dX4_work_149 : decode cX4_work 149 = .ok (.iconst 0, 1) := by decide +kernel
theorem dX4_work_150 : decode cX4_work 150 = .ok (.invokevirtual 41, 3) := by decide +kernel
theorem dX4_work_153 : decode cX4_work 153 = .ok (.goto 24, 3) := by decide +kernel
theorem dX4_work_156 : decode cX4_work 156 = .ok (.aload_n 0, 1) := by decide +kernel
theorem dX4_work_157 : decode cX4_work 157 = .ok (.invokevirtual 49, 3) := by decide +kernel
theorem dX4_work_160 : decode cX4_work 160 = .ok (.istore 9, 2) := by decide +kernel
theorem dX4_work_162 : decode cX4_work 162 = .ok (.aload_n 0, 1) := by decide +kernel
theorem dX4_work_163 : decode cX4_work 163 = .ok (.iload 7, 2) := by decide +kernel
theorem dX4_work_165 : decode cX4_work 165 = .ok (.aload_n 0, 1) := by decide +kernel
theorem dX4_work_166 : decode cX4_work 166 = .ok (.invokevirtual 49, 3) := by decide +kernel
theorem dX4_work_169 : decode cX4_work 169 = .ok (.iload 9, 2) := by decide +kernel
theorem dX4_work_171 : decode cX4_work 171 = .ok (.invokestatic 53, 3) := by decide +kernel
theorem dX4_work_174 : decode cX4_work 174 = .ok (.invokevirtual 41, 3) := by decide +kernel
theorem dX4_work_177 : decode cX4_work 177 = .ok (.iinc 6 1, 3) := by decide +kernel
theorem dX4_work_180 : decode cX4_work 180 = .ok (.goto (-167), 3) := by decide +kernel
theorem dX4_work_183 : decode cX4_work 183 = .ok (.aload_n 0, 1) := by decide +kernel
theorem dX4_work_184 : decode cX4_work 184 = .ok (.invokevirtual 49, 3) := by decide +kernel
theorem dX4_work_187 : decode cX4_work 187 = .ok (.ireturn, 1) := by decide +kernel
theorem dX4_markLeaf_0 : decode cX4_markLeaf 0 = .ok (.iload_n 1, 1) := by decide +kernel
theorem dX4_markLeaf_1 : decode cX4_markLeaf 1 = .ok (.lookupswitch 70 #[(202, 35), (213, 52), (214, 61)], 35) := by decide +kernel
theorem dX4_markLeaf_36 : decode cX4_markLeaf 36 = .ok (.iload_n 2, 1) := by decide +kernel
theorem dX4_markLeaf_37 : decode cX4_markLeaf 37 = .ok (.bipush 6, 2) := by decide +kernel
theorem dX4_markLeaf_39 : decode cX4_markLeaf 39 = .ok (.if_icmp .ge 12, 3) := by decide +kernel
theorem dX4_markLeaf_42 : decode cX4_markLeaf 42 = .ok (.aload_n 0, 1) := by decide +kernel
theorem dX4_markLeaf_43 : decode cX4_markLeaf 43 = .ok (.getfield 9, 3) := by decide +kernel
theorem dX4_markLeaf_46 : decode cX4_markLeaf 46 = .ok (.iload_n 2, 1) := by decide +kernel
theorem dX4_markLeaf_47 : decode cX4_markLeaf 47 = .ok (.iaload, 1) := by decide +kernel
theorem dX4_markLeaf_48 : decode cX4_markLeaf 48 = .ok (.goto 4, 3) := by decide +kernel
theorem dX4_markLeaf_51 : decode cX4_markLeaf 51 = .ok (.iconst 0, 1) := by decide +kernel
theorem dX4_markLeaf_52 : decode cX4_markLeaf 52 = .ok (.ireturn, 1) := by decide +kernel
theorem dX4_markLeaf_53 : decode cX4_markLeaf 53 = .ok (.aload_n 0, 1) := by decide +kernel
theorem dX4_markLeaf_54 : decode cX4_markLeaf 54 = .ok (.aload_n 3, 1) := by decide +kernel
theorem dX4_markLeaf_55 : decode cX4_markLeaf 55 = .ok (.getfield 57, 3) := by decide +kernel
theorem dX4_markLeaf_58 : decode cX4_markLeaf 58 = .ok (.invokevirtual 62, 3) := by decide +kernel
theorem dX4_markLeaf_61 : decode cX4_markLeaf 61 = .ok (.ireturn, 1) := by decide +kernel
theorem dX4_markLeaf_62 : decode cX4_markLeaf 62 = .ok (.aload_n 0, 1) := by decide +kernel
theorem dX4_markLeaf_63 : decode cX4_markLeaf 63 = .ok (.aload_n 3, 1) := by decide +kernel
theorem dX4_markLeaf_64 : decode cX4_markLeaf 64 = .ok (.getfield 57, 3) := by decide +kernel
theorem dX4_markLeaf_67 : decode cX4_markLeaf 67 = .ok (.invokevirtual 66, 3) := by decide +kernel
theorem dX4_markLeaf_70 : decode cX4_markLeaf 70 = .ok (.ireturn, 1) := by decide +kernel
theorem dX4_markLeaf_71 : decode cX4_markLeaf 71 = .ok (.iload_n 2, 1) := by decide +kernel
theorem dX4_markLeaf_72 : decode cX4_markLeaf 72 = .ok (.ireturn, 1) := by decide +kernel
theorem dX4_pieceLeaf_0 : decode cX4_pieceLeaf 0 = .ok (.iload_n 1, 1) := by decide +kernel
theorem dX4_pieceLeaf_1 : decode cX4_pieceLeaf 1 = .ok (.lookupswitch 63 #[(201, 35), (210, 45), (211, 54)], 35) := by decide +kernel
theorem dX4_pieceLeaf_36 : decode cX4_pieceLeaf 36 = .ok (.aload 4, 2) := by decide +kernel
theorem dX4_pieceLeaf_38 : decode cX4_pieceLeaf 38 = .ok (.iload 5, 2) := by decide +kernel
theorem dX4_pieceLeaf_40 : decode cX4_pieceLeaf 40 = .ok (.aload_n 3, 1) := by decide +kernel
theorem dX4_pieceLeaf_41 : decode cX4_pieceLeaf 41 = .ok (.iload_n 2, 1) := by decide +kernel
theorem dX4_pieceLeaf_42 : decode cX4_pieceLeaf 42 = .ok (.invokevirtual 69, 3) := by decide +kernel
theorem dX4_pieceLeaf_45 : decode cX4_pieceLeaf 45 = .ok (.ireturn, 1) := by decide +kernel
theorem dX4_pieceLeaf_46 : decode cX4_pieceLeaf 46 = .ok (.aload 4, 2) := by decide +kernel
theorem dX4_pieceLeaf_48 : decode cX4_pieceLeaf 48 = .ok (.iload 5, 2) := by decide +kernel
theorem dX4_pieceLeaf_50 : decode cX4_pieceLeaf 50 = .ok (.aload_n 3, 1) := by decide +kernel
theorem dX4_pieceLeaf_51 : decode cX4_pieceLeaf 51 = .ok (.invokevirtual 75, 3) := by decide +kernel
theorem dX4_pieceLeaf_54 : decode cX4_pieceLeaf 54 = .ok (.ireturn, 1) := by decide +kernel
theorem dX4_pieceLeaf_55 : decode cX4_pieceLeaf 55 = .ok (.aload 4, 2) := by decide +kernel
theorem dX4_pieceLeaf_57 : decode cX4_pieceLeaf 57 = .ok (.getfield 79, 3) := by decide +kernel
theorem dX4_pieceLeaf_60 : decode cX4_pieceLeaf 60 = .ok (.iload 5, 2) := by decide +kernel
theorem dX4_pieceLeaf_62 : decode cX4_pieceLeaf 62 = .ok (.iaload, 1) := by decide +kernel
theorem dX4_pieceLeaf_63 : decode cX4_pieceLeaf 63 = .ok (.ireturn, 1) := by decide +kernel
theorem dX4_pieceLeaf_64 : decode cX4_pieceLeaf 64 = .ok (.aload 4, 2) := by decide +kernel
theorem dX4_pieceLeaf_66 : decode cX4_pieceLeaf 66 = .ok (.getfield 82, 3) := by decide +kernel
theorem dX4_pieceLeaf_69 : decode cX4_pieceLeaf 69 = .ok (.iload 5, 2) := by decide +kernel
theorem dX4_pieceLeaf_71 : decode cX4_pieceLeaf 71 = .ok (.iaload, 1) := by decide +kernel
theorem dX4_pieceLeaf_72 : decode cX4_pieceLeaf 72 = .ok (.ireturn, 1) := by decide +kernel
theorem dX4_total_0 : decode cX4_total 0 = .ok (.iconst 0, 1) := by decide +kernel
theorem dX4_total_1 : decode cX4_total 1 = .ok (.istore_n 2, 1) := by decide +kernel
theorem dX4_total_2 : decode cX4_total 2 = .ok (.iconst 0, 1) := by decide +kernel
theorem dX4_total_3 : decode cX4_total 3 = .ok (.istore_n 3, 1) := by decide +kernel
theorem dX4_total_4 : decode cX4_total 4 = .ok (.iload_n 3, 1) := by decide +kernel
theorem dX4_total_5 : decode cX4_total 5 = .ok (.iload_n 1, 1) := by decide +kernel
theorem dX4_total_6 : decode cX4_total 6 = .ok (.if_icmp .ge 24, 3) := by decide +kernel
theorem dX4_total_9 : decode cX4_total 9 = .ok (.iload_n 3, 1) := by decide +kernel
theorem dX4_total_10 : decode cX4_total 10 = .ok (.bipush 6, 2) := by decide +kernel
theorem dX4_total_12 : decode cX4_total 12 = .ok (.if_icmp .ge 18, 3) := by decide +kernel
theorem dX4_total_15 : decode cX4_total 15 = .ok (.iload_n 2, 1) := by decide +kernel
theorem dX4_total_16 : decode cX4_total 16 = .ok (.aload_n 0, 1) := by decide +kernel
theorem dX4_total_17 : decode cX4_total 17 = .ok (.getfield 9, 3) := by decide +kernel
theorem dX4_total_20 : decode cX4_total 20 = .ok (.iload_n 3, 1) := by decide +kernel
theorem dX4_total_21 : decode cX4_total 21 = .ok (.iaload, 1) := by decide +kernel
theorem dX4_total_22 : decode cX4_total 22 = .ok (.iadd, 1) := by decide +kernel
theorem dX4_total_23 : decode cX4_total 23 = .ok (.istore_n 2, 1) := by decide +kernel
theorem dX4_total_24 : decode cX4_total 24 = .ok (.iinc 3 1, 3) := by decide +kernel
theorem dX4_total_27 : decode cX4_total 27 = .ok (.goto (-23), 3) := by decide +kernel
theorem dX4_total_30 : decode cX4_total 30 = .ok (.iload_n 2, 1) := by decide +kernel
theorem dX4_total_31 : decode cX4_total 31 = .ok (.ireturn, 1) := by decide +kernel
theorem dX4_least_0 : decode cX4_least 0 = .ok (.iload_n 1, 1) := by decide +kernel
theorem dX4_least_1 : decode cX4_least 1 = .ok (.ifCond .le 12, 3) := by decide +kernel
theorem dX4_least_4 : decode cX4_least 4 = .ok (.aload_n 0, 1) := by decide +kernel
theorem dX4_least_5 : decode cX4_least 5 = .ok (.getfield 9, 3) := by decide +kernel
theorem dX4_least_8 : decode cX4_least 8 = .ok (.iconst 0, 1) := by decide +kernel
theorem dX4_least_9 : decode cX4_least 9 = .ok (.iaload, 1) := by decide +kernel
theorem dX4_least_10 : decode cX4_least 10 = .ok (.goto 4, 3) := by decide +kernel
theorem dX4_least_13 : decode cX4_least 13 = .ok (.iconst 0, 1) := by decide +kernel
theorem dX4_least_14 : decode cX4_least 14 = .ok (.istore_n 2, 1) := by decide +kernel
theorem dX4_least_15 : decode cX4_least 15 = .ok (.iconst 1, 1) := by decide +kernel
theorem dX4_least_16 : decode cX4_least 16 = .ok (.istore_n 3, 1) := by decide +kernel
theorem dX4_least_17 : decode cX4_least 17 = .ok (.iload_n 3, 1) := by decide +kernel
theorem dX4_least_18 : decode cX4_least 18 = .ok (.iload_n 1, 1) := by decide +kernel
theorem dX4_least_19 : decode cX4_least 19 = .ok (.if_icmp .ge 26, 3) := by decide +kernel
theorem dX4_least_22 : decode cX4_least 22 = .ok (.iload_n 3, 1) := by decide +kernel
theorem dX4_least_23 : decode cX4_least 23 = .ok (.bipush 6, 2) := by decide +kernel
theorem dX4_least_25 : decode cX4_least 25 = .ok (.if_icmp .ge 20, 3) := by decide +kernel
theorem dX4_least_28 : decode cX4_least 28 = .ok (.iload_n 2, 1) := by decide +kernel
theorem dX4_least_29 : decode cX4_least 29 = .ok (.aload_n 0, 1) := by decide +kernel
theorem dX4_least_30 : decode cX4_least 30 = .ok (.getfield 9, 3) := by decide +kernel
theorem dX4_least_33 : decode cX4_least 33 = .ok (.iload_n 3, 1) := by decide +kernel
theorem dX4_least_34 : decode cX4_least 34 = .ok (.iaload, 1) := by decide +kernel
theorem dX4_least_35 : decode cX4_least 35 = .ok (.invokestatic 85, 3) := by decide +kernel
theorem dX4_least_38 : decode cX4_least 38 = .ok (.istore_n 2, 1) := by decide +kernel
theorem dX4_least_39 : decode cX4_least 39 = .ok (.iinc 3 1, 3) := by decide +kernel
theorem dX4_least_42 : decode cX4_least 42 = .ok (.goto (-25), 3) := by decide +kernel
theorem dX4_least_45 : decode cX4_least 45 = .ok (.iload_n 2, 1) := by decide +kernel
theorem dX4_least_46 : decode cX4_least 46 = .ok (.ireturn, 1) := by decide +kernel
theorem dX4_join_0 : decode cX4_join 0 = .ok (.iload_n 0, 1) := by decide +kernel
theorem dX4_join_1 : decode cX4_join 1 = .ok (.lookupswitch 114 #[(43, 59), (45, 63), (60, 67), (61, 89), (62, 78), (208, 100)], 59) := by decide +kernel
theorem dX4_join_60 : decode cX4_join 60 = .ok (.iload_n 1, 1) := by decide +kernel
theorem dX4_join_61 : decode cX4_join 61 = .ok (.iload_n 2, 1) := by decide +kernel
theorem dX4_join_62 : decode cX4_join 62 = .ok (.iadd, 1) := by decide +kernel
theorem dX4_join_63 : decode cX4_join 63 = .ok (.ireturn, 1) := by decide +kernel
theorem dX4_join_64 : decode cX4_join 64 = .ok (.iload_n 1, 1) := by decide +kernel
theorem dX4_join_65 : decode cX4_join 65 = .ok (.iload_n 2, 1) := by decide +kernel
theorem dX4_join_66 : decode cX4_join 66 = .ok (.isub, 1) := by decide +kernel
theorem dX4_join_67 : decode cX4_join 67 = .ok (.ireturn, 1) := by decide +kernel
theorem dX4_join_68 : decode cX4_join 68 = .ok (.iload_n 1, 1) := by decide +kernel
theorem dX4_join_69 : decode cX4_join 69 = .ok (.iload_n 2, 1) := by decide +kernel
theorem dX4_join_70 : decode cX4_join 70 = .ok (.if_icmp .ge 7, 3) := by decide +kernel
theorem dX4_join_73 : decode cX4_join 73 = .ok (.iconst 1, 1) := by decide +kernel
theorem dX4_join_74 : decode cX4_join 74 = .ok (.goto 4, 3) := by decide +kernel
theorem dX4_join_77 : decode cX4_join 77 = .ok (.iconst 0, 1) := by decide +kernel
theorem dX4_join_78 : decode cX4_join 78 = .ok (.ireturn, 1) := by decide +kernel
theorem dX4_join_79 : decode cX4_join 79 = .ok (.iload_n 1, 1) := by decide +kernel
theorem dX4_join_80 : decode cX4_join 80 = .ok (.iload_n 2, 1) := by decide +kernel
theorem dX4_join_81 : decode cX4_join 81 = .ok (.if_icmp .le 7, 3) := by decide +kernel
theorem dX4_join_84 : decode cX4_join 84 = .ok (.iconst 1, 1) := by decide +kernel
theorem dX4_join_85 : decode cX4_join 85 = .ok (.goto 4, 3) := by decide +kernel
theorem dX4_join_88 : decode cX4_join 88 = .ok (.iconst 0, 1) := by decide +kernel
theorem dX4_join_89 : decode cX4_join 89 = .ok (.ireturn, 1) := by decide +kernel
theorem dX4_join_90 : decode cX4_join 90 = .ok (.iload_n 1, 1) := by decide +kernel
theorem dX4_join_91 : decode cX4_join 91 = .ok (.iload_n 2, 1) := by decide +kernel
theorem dX4_join_92 : decode cX4_join 92 = .ok (.if_icmp .ne 7, 3) := by decide +kernel
theorem dX4_join_95 : decode cX4_join 95 = .ok (.iconst 1, 1) := by decide +kernel
theorem dX4_join_96 : decode cX4_join 96 = .ok (.goto 4, 3) := by decide +kernel
theorem dX4_join_99 : decode cX4_join 99 = .ok (.iconst 0, 1) := by decide +kernel
theorem dX4_join_100 : decode cX4_join 100 = .ok (.ireturn, 1) := by decide +kernel
theorem dX4_join_101 : decode cX4_join 101 = .ok (.iload_n 1, 1) := by decide +kernel
theorem dX4_join_102 : decode cX4_join 102 = .ok (.ifCond .eq 11, 3) := by decide +kernel
theorem dX4_join_105 : decode cX4_join 105 = .ok (.iload_n 2, 1) := by decide +kernel
theorem dX4_join_106 : decode cX4_join 106 = .ok (.ifCond .eq 7, 3) := by decide +kernel
theorem dX4_join_109 : decode cX4_join 109 = .ok (.iconst 1, 1) := by decide +kernel
theorem dX4_join_110 : decode cX4_join 110 = .ok (.goto 4, 3) := by decide +kernel
theorem dX4_join_113 : decode cX4_join 113 = .ok (.iconst 0, 1) := by decide +kernel
theorem dX4_join_114 : decode cX4_join 114 = .ok (.ireturn, 1) := by decide +kernel
theorem dX4_join_115 : decode cX4_join 115 = .ok (.iload_n 1, 1) := by decide +kernel
theorem dX4_join_116 : decode cX4_join 116 = .ok (.ifCond .ne 7, 3) := by decide +kernel
theorem dX4_join_119 : decode cX4_join 119 = .ok (.iload_n 2, 1) := by decide +kernel
theorem dX4_join_120 : decode cX4_join 120 = .ok (.ifCond .eq 7, 3) := by decide +kernel
theorem dX4_join_123 : decode cX4_join 123 = .ok (.iconst 1, 1) := by decide +kernel
theorem dX4_join_124 : decode cX4_join 124 = .ok (.goto 4, 3) := by decide +kernel
theorem dX4_join_127 : decode cX4_join 127 = .ok (.iconst 0, 1) := by decide +kernel
theorem dX4_join_128 : decode cX4_join 128 = .ok (.ireturn, 1) := by decide +kernel
theorem dX4_push_0 : decode cX4_push 0 = .ok (.aload_n 0, 1) := by decide +kernel
theorem dX4_push_1 : decode cX4_push 1 = .ok (.getfield 18, 3) := by decide +kernel
theorem dX4_push_4 : decode cX4_push 4 = .ok (.sipush 150, 3) := by decide +kernel
theorem dX4_push_7 : decode cX4_push 7 = .ok (.if_icmp .ge 23, 3) := by decide +kernel
theorem dX4_push_10 : decode cX4_push 10 = .ok (.aload_n 0, 1) := by decide +kernel
theorem dX4_push_11 : decode cX4_push 11 = .ok (.getfield 15, 3) := by decide +kernel
theorem dX4_push_14 : decode cX4_push 14 = .ok (.aload_n 0, 1) := by decide +kernel
theorem dX4_push_15 : decode cX4_push 15 = .ok (.getfield 18, 3) := by decide +kernel
theorem dX4_push_18 : decode cX4_push 18 = .ok (.iload_n 1, 1) := by decide +kernel
theorem dX4_push_19 : decode cX4_push 19 = .ok (.iastore, 1) := by decide +kernel
theorem dX4_push_20 : decode cX4_push 20 = .ok (.aload_n 0, 1) := by decide +kernel
theorem dX4_push_21 : decode cX4_push 21 = .ok (.dup, 1) := by decide +kernel
theorem dX4_push_22 : decode cX4_push 22 = .ok (.getfield 18, 3) := by decide +kernel
theorem dX4_push_25 : decode cX4_push 25 = .ok (.iconst 1, 1) := by decide +kernel
theorem dX4_push_26 : decode cX4_push 26 = .ok (.iadd, 1) := by decide +kernel
theorem dX4_push_27 : decode cX4_push 27 = .ok (.putfield 18, 3) := by decide +kernel
theorem dX4_push_30 : decode cX4_push 30 = .ok (.return_, 1) := by decide +kernel
theorem dX4_pop_0 : decode cX4_pop 0 = .ok (.aload_n 0, 1) := by decide +kernel
theorem dX4_pop_1 : decode cX4_pop 1 = .ok (.getfield 18, 3) := by decide +kernel
theorem dX4_pop_4 : decode cX4_pop 4 = .ok (.ifCond .gt 5, 3) := by decide +kernel
theorem dX4_pop_7 : decode cX4_pop 7 = .ok (.iconst 0, 1) := by decide +kernel
theorem dX4_pop_8 : decode cX4_pop 8 = .ok (.ireturn, 1) := by decide +kernel
theorem dX4_pop_9 : decode cX4_pop 9 = .ok (.aload_n 0, 1) := by decide +kernel
theorem dX4_pop_10 : decode cX4_pop 10 = .ok (.dup, 1) := by decide +kernel
theorem dX4_pop_11 : decode cX4_pop 11 = .ok (.getfield 18, 3) := by decide +kernel
theorem dX4_pop_14 : decode cX4_pop 14 = .ok (.iconst 1, 1) := by decide +kernel
theorem dX4_pop_15 : decode cX4_pop 15 = .ok (.isub, 1) := by decide +kernel
theorem dX4_pop_16 : decode cX4_pop 16 = .ok (.putfield 18, 3) := by decide +kernel
theorem dX4_pop_19 : decode cX4_pop 19 = .ok (.aload_n 0, 1) := by decide +kernel
theorem dX4_pop_20 : decode cX4_pop 20 = .ok (.getfield 15, 3) := by decide +kernel
theorem dX4_pop_23 : decode cX4_pop 23 = .ok (.aload_n 0, 1) := by decide +kernel
theorem dX4_pop_24 : decode cX4_pop 24 = .ok (.getfield 18, 3) := by decide +kernel
theorem dX4_pop_27 : decode cX4_pop 27 = .ok (.iaload, 1) := by decide +kernel
theorem dX4_pop_28 : decode cX4_pop 28 = .ok (.ireturn, 1) := by decide +kernel
theorem dX5_init_0 : decode cX5_init 0 = .ok (.aload_n 0, 1) := by decide +kernel
theorem dX5_init_1 : decode cX5_init 1 = .ok (.invokespecial 3, 3) := by decide +kernel
theorem dX5_init_4 : decode cX5_init 4 = .ok (.aload_n 0, 1) := by decide +kernel
theorem dX5_init_5 : decode cX5_init 5 = .ok (.sipush 200, 3) := by decide +kernel
theorem dX5_init_8 : decode cX5_init 8 = .ok (.newarray .int, 2) := by decide +kernel
theorem dX5_init_10 : decode cX5_init 10 = .ok (.putfield 9, 3) := by decide +kernel
theorem dX5_init_13 : decode cX5_init 13 = .ok (.aload_n 0, 1) := by decide +kernel
theorem dX5_init_14 : decode cX5_init 14 = .ok (.sipush 200, 3) := by decide +kernel
theorem dX5_init_17 : decode cX5_init 17 = .ok (.newarray .int, 2) := by decide +kernel
theorem dX5_init_19 : decode cX5_init 19 = .ok (.putfield 15, 3) := by decide +kernel
theorem dX5_init_22 : decode cX5_init 22 = .ok (.aload_n 0, 1) := by decide +kernel
theorem dX5_init_23 : decode cX5_init 23 = .ok (.sipush 200, 3) := by decide +kernel
theorem dX5_init_26 : decode cX5_init 26 = .ok (.newarray .int, 2) := by decide +kernel
theorem dX5_init_28 : decode cX5_init 28 = .ok (.putfield 18, 3) := by decide +kernel
theorem dX5_init_31 : decode cX5_init 31 = .ok (.aload_n 0, 1) := by decide +kernel
theorem dX5_init_32 : decode cX5_init 32 = .ok (.sipush 200, 3) := by decide +kernel
theorem dX5_init_35 : decode cX5_init 35 = .ok (.newarray .int, 2) := by decide +kernel
theorem dX5_init_37 : decode cX5_init 37 = .ok (.putfield 21, 3) := by decide +kernel
theorem dX5_init_40 : decode cX5_init 40 = .ok (.aload_n 0, 1) := by decide +kernel
theorem dX5_init_41 : decode cX5_init 41 = .ok (.sipush 200, 3) := by decide +kernel
theorem dX5_init_44 : decode cX5_init 44 = .ok (.newarray .int, 2) := by decide +kernel
theorem dX5_init_46 : decode cX5_init 46 = .ok (.putfield 24, 3) := by decide +kernel
theorem dX5_init_49 : decode cX5_init 49 = .ok (.aload_n 0, 1) := by decide +kernel
theorem dX5_init_50 : decode cX5_init 50 = .ok (.sipush 200, 3) := by decide +kernel
theorem dX5_init_53 : decode cX5_init 53 = .ok (.newarray .int, 2) := by decide +kernel
theorem dX5_init_55 : decode cX5_init 55 = .ok (.putfield 27, 3) := by decide +kernel
theorem dX5_init_58 : decode cX5_init 58 = .ok (.aload_n 0, 1) := by decide +kernel
theorem dX5_init_59 : decode cX5_init 59 = .ok (.sipush 200, 3) := by decide +kernel
theorem dX5_init_62 : decode cX5_init 62 = .ok (.newarray .int, 2) := by decide +kernel
theorem dX5_init_64 : decode cX5_init 64 = .ok (.putfield 30, 3) := by decide +kernel
theorem dX5_init_67 : decode cX5_init 67 = .ok (.return_, 1) := by decide +kernel
theorem dX5_tell_0 : decode cX5_tell 0 = .ok (.aload_n 0, 1) := by decide +kernel
theorem dX5_tell_1 : decode cX5_tell 1 = .ok (.getfield 33, 3) := by decide +kernel
theorem dX5_tell_4 : decode cX5_tell 4 = .ok (.sipush 200, 3) := by decide +kernel
theorem dX5_tell_7 : decode cX5_tell 7 = .ok (.if_icmp .lt 5, 3) := by decide +kernel
theorem dX5_tell_10 : decode cX5_tell 10 = .ok (.iconst (-1), 1) := by decide +kernel
theorem dX5_tell_11 : decode cX5_tell 11 = .ok (.ireturn, 1) := by decide +kernel
theorem dX5_tell_12 : decode cX5_tell 12 = .ok (.aload_n 0, 1) := by decide +kernel
theorem dX5_tell_13 : decode cX5_tell 13 = .ok (.getfield 9, 3) := by decide +kernel
theorem dX5_tell_16 : decode cX5_tell 16 = .ok (.aload_n 0, 1) := by decide +kernel
theorem dX5_tell_17 : decode cX5_tell 17 = .ok (.getfield 33, 3) := by decide +kernel
theorem dX5_tell_20 : decode cX5_tell 20 = .ok (.iload_n 2, 1) := by decide +kernel
theorem dX5_tell_21 : decode cX5_tell 21 = .ok (.iastore, 1) := by decide +kernel
theorem dX5_tell_22 : decode cX5_tell 22 = .ok (.aload_n 0, 1) := by decide +kernel
theorem dX5_tell_23 : decode cX5_tell 23 = .ok (.getfield 15, 3) := by decide +kernel
theorem dX5_tell_26 : decode cX5_tell 26 = .ok (.aload_n 0, 1) := by decide +kernel
theorem dX5_tell_27 : decode cX5_tell 27 = .ok (.getfield 33, 3) := by decide +kernel
theorem dX5_tell_30 : decode cX5_tell 30 = .ok (.iload_n 1, 1) := by decide +kernel
theorem dX5_tell_31 : decode cX5_tell 31 = .ok (.iastore, 1) := by decide +kernel
theorem dX5_tell_32 : decode cX5_tell 32 = .ok (.aload_n 0, 1) := by decide +kernel
theorem dX5_tell_33 : decode cX5_tell 33 = .ok (.getfield 18, 3) := by decide +kernel
theorem dX5_tell_36 : decode cX5_tell 36 = .ok (.aload_n 0, 1) := by decide +kernel
theorem dX5_tell_37 : decode cX5_tell 37 = .ok (.getfield 33, 3) := by decide +kernel
theorem dX5_tell_40 : decode cX5_tell 40 = .ok (.iload_n 3, 1) := by decide +kernel
theorem dX5_tell_41 : decode cX5_tell 41 = .ok (.iastore, 1) := by decide +kernel
theorem dX5_tell_42 : decode cX5_tell 42 = .ok (.aload_n 0, 1) := by decide +kernel
theorem dX5_tell_43 : decode cX5_tell 43 = .ok (.getfield 21, 3) := by decide +kernel
theorem dX5_tell_46 : decode cX5_tell 46 = .ok (.aload_n 0, 1) := by decide +kernel
theorem dX5_tell_47 : decode cX5_tell 47 = .ok (.getfield 33, 3) := by decide +kernel
theorem dX5_tell_50 : decode cX5_tell 50 = .ok (.iload 4, 2) := by decide +kernel
theorem dX5_tell_52 : decode cX5_tell 52 = .ok (.iastore, 1) := by decide +kernel
theorem dX5_tell_53 : decode cX5_tell 53 = .ok (.aload_n 0, 1) := by decide +kernel
theorem dX5_tell_54 : decode cX5_tell 54 = .ok (.getfield 24, 3) := by decide +kernel
theorem dX5_tell_57 : decode cX5_tell 57 = .ok (.aload_n 0, 1) := by decide +kernel
theorem dX5_tell_58 : decode cX5_tell 58 = .ok (.getfield 33, 3) := by decide +kernel
theorem dX5_tell_61 : decode cX5_tell 61 = .ok (.aload_n 0, 1) := by decide +kernel
theorem dX5_tell_62 : decode cX5_tell 62 = .ok (.getfield 37, 3) := by decide +kernel
theorem dX5_tell_65 : decode cX5_tell 65 = .ok (.iastore, 1) := by decide +kernel
theorem dX5_tell_66 : decode cX5_tell 66 = .ok (.aload_n 0, 1) := by decide +kernel
theorem dX5_tell_67 : decode cX5_tell 67 = .ok (.getfield 27, 3) := by decide +kernel
theorem dX5_tell_70 : decode cX5_tell 70 = .ok (.aload_n 0, 1) := by decide +kernel
theorem dX5_tell_71 : decode cX5_tell 71 = .ok (.getfield 33, 3) := by decide +kernel
theorem dX5_tell_74 : decode cX5_tell 74 = .ok (.iconst (-1), 1) := by decide +kernel
theorem dX5_tell_75 : decode cX5_tell 75 = .ok (.iastore, 1) := by decide +kernel
theorem dX5_tell_76 : decode cX5_tell 76 = .ok (.aload_n 0, 1) := by decide +kernel
theorem dX5_tell_77 : decode cX5_tell 77 = .ok (.dup, 1) := by decide +kernel
theorem dX5_tell_78 : decode cX5_tell 78 = .ok (.getfield 33, 3) := by decide +kernel
theorem dX5_tell_81 : decode cX5_tell 81 = .ok (.iconst 1, 1) := by decide +kernel
theorem dX5_tell_82 : decode cX5_tell 82 = .ok (.iadd, 1) := by decide +kernel
theorem dX5_tell_83 : decode cX5_tell 83 = .ok (.putfield 33, 3) := by decide +kernel
theorem dX5_tell_86 : decode cX5_tell 86 = .ok (.aload_n 0, 1) := by decide +kernel
theorem dX5_tell_87 : decode cX5_tell 87 = .ok (.getfield 33, 3) := by decide +kernel
theorem dX5_tell_90 : decode cX5_tell 90 = .ok (.iconst 1, 1) := by decide +kernel
theorem dX5_tell_91 : decode cX5_tell 91 = .ok (.isub, 1) := by decide +kernel
theorem dX5_tell_92 : decode cX5_tell 92 = .ok (.ireturn, 1) := by decide +kernel
theorem dX5_takeBack_0 : decode cX5_takeBack 0 = .ok (.iload_n 1, 1) := by decide +kernel
theorem dX5_takeBack_1 : decode cX5_takeBack 1 = .ok (.ifCond .lt 19, 3) := by decide +kernel
theorem dX5_takeBack_4 : decode cX5_takeBack 4 = .ok (.iload_n 1, 1) := by decide +kernel
theorem dX5_takeBack_5 : decode cX5_takeBack 5 = .ok (.aload_n 0, 1) := by decide +kernel
theorem dX5_takeBack_6 : decode cX5_takeBack 6 = .ok (.getfield 33, 3) := by decide +kernel
theorem dX5_takeBack_9 : decode cX5_takeBack 9 = .ok (.if_icmp .ge 11, 3) := by decide +kernel
theorem dX5_takeBack_12 : decode cX5_takeBack 12 = .ok (.aload_n 0, 1) := by decide +kernel
theorem dX5_takeBack_13 : decode cX5_takeBack 13 = .ok (.iload_n 1, 1) := by decide +kernel
theorem dX5_takeBack_14 : decode cX5_takeBack 14 = .ok (.invokevirtual 40, 3) := by decide +kernel
theorem dX5_takeBack_17 : decode cX5_takeBack 17 = .ok (.ifCond .ne 5, 3) := by decide +kernel
theorem dX5_takeBack_20 : decode cX5_takeBack 20 = .ok (.iconst 0, 1) := by decide +kernel
theorem dX5_takeBack_21 : decode cX5_takeBack 21 = .ok (.ireturn, 1) := by decide +kernel
theorem dX5_takeBack_22 : decode cX5_takeBack 22 = .ok (.aload_n 0, 1) := by decide +kernel
theorem dX5_takeBack_23 : decode cX5_takeBack 23 = .ok (.getfield 27, 3) := by decide +kernel
theorem dX5_takeBack_26 : decode cX5_takeBack 26 = .ok (.iload_n 1, 1) := by decide +kernel
theorem dX5_takeBack_27 : decode cX5_takeBack 27 = .ok (.aload_n 0, 1) := by decide +kernel
theorem dX5_takeBack_28 : decode cX5_takeBack 28 = .ok (.getfield 37, 3) := by decide +kernel
theorem dX5_takeBack_31 : decode cX5_takeBack 31 = .ok (.iastore, 1) := by decide +kernel
theorem dX5_takeBack_32 : decode cX5_takeBack 32 = .ok (.iconst 1, 1) := by decide +kernel
theorem dX5_takeBack_33 : decode cX5_takeBack 33 = .ok (.ireturn, 1) := by decide +kernel
theorem dX5_stands_0 : decode cX5_stands 0 = .ok (.aload_n 0, 1) := by decide +kernel
theorem dX5_stands_1 : decode cX5_stands 1 = .ok (.getfield 27, 3) := by decide +kernel
theorem dX5_stands_4 : decode cX5_stands 4 = .ok (.iload_n 1, 1) := by decide +kernel
theorem dX5_stands_5 : decode cX5_stands 5 = .ok (.iaload, 1) := by decide +kernel
theorem dX5_stands_6 : decode cX5_stands 6 = .ok (.iconst (-1), 1) := by decide +kernel
theorem dX5_stands_7 : decode cX5_stands 7 = .ok (.if_icmp .ne 7, 3) := by decide +kernel
theorem dX5_stands_10 : decode cX5_stands 10 = .ok (.iconst 1, 1) := by decide +kernel
theorem dX5_stands_11 : decode cX5_stands 11 = .ok (.goto 4, 3) := by decide +kernel
theorem dX5_stands_14 : decode cX5_stands 14 = .ok (.iconst 0, 1) := by decide +kernel
theorem dX5_stands_15 : decode cX5_stands 15 = .ok (.ireturn, 1) := by decide +kernel
theorem dX5_isKnown_0 : decode cX5_isKnown 0 = .ok (.aload_n 0, 1) := by decide +kernel
theorem dX5_isKnown_1 : decode cX5_isKnown 1 = .ok (.getfield 24, 3) := by decide +kernel
theorem dX5_isKnown_4 : decode cX5_isKnown 4 = .ok (.iload_n 1, 1) := by decide +kernel
theorem dX5_isKnown_5 : decode cX5_isKnown 5 = .ok (.iaload, 1) := by decide +kernel
theorem dX5_isKnown_6 : decode cX5_isKnown 6 = .ok (.iload_n 2, 1) := by decide +kernel
theorem dX5_isKnown_7 : decode cX5_isKnown 7 = .ok (.if_icmp .gt 25, 3) := by decide +kernel
theorem dX5_isKnown_10 : decode cX5_isKnown 10 = .ok (.aload_n 0, 1) := by decide +kernel
theorem dX5_isKnown_11 : decode cX5_isKnown 11 = .ok (.iload_n 1, 1) := by decide +kernel
theorem dX5_isKnown_12 : decode cX5_isKnown 12 = .ok (.invokevirtual 40, 3) := by decide +kernel
theorem dX5_isKnown_15 : decode cX5_isKnown 15 = .ok (.ifCond .ne 13, 3) := by decide +kernel
theorem dX5_isKnown_18 : decode cX5_isKnown 18 = .ok (.aload_n 0, 1) := by decide +kernel
theorem dX5_isKnown_19 : decode cX5_isKnown 19 = .ok (.getfield 27, 3) := by decide +kernel
theorem dX5_isKnown_22 : decode cX5_isKnown 22 = .ok (.iload_n 1, 1) := by decide +kernel
theorem dX5_isKnown_23 : decode cX5_isKnown 23 = .ok (.iaload, 1) := by decide +kernel
theorem dX5_isKnown_24 : decode cX5_isKnown 24 = .ok (.iload_n 2, 1) := by decide +kernel
theorem dX5_isKnown_25 : decode cX5_isKnown 25 = .ok (.if_icmp .le 7, 3) := by decide +kernel
theorem dX5_isKnown_28 : decode cX5_isKnown 28 = .ok (.iconst 1, 1) := by decide +kernel
theorem dX5_isKnown_29 : decode cX5_isKnown 29 = .ok (.goto 4, 3) := by decide +kernel
theorem dX5_isKnown_32 : decode cX5_isKnown 32 = .ok (.iconst 0, 1) := by decide +kernel
theorem dX5_isKnown_33 : decode cX5_isKnown 33 = .ok (.ireturn, 1) := by decide +kernel
theorem dX5_mainOf_0 : decode cX5_mainOf 0 = .ok (.iconst 0, 1) := by decide +kernel
theorem dX5_mainOf_1 : decode cX5_mainOf 1 = .ok (.istore_n 3, 1) := by decide +kernel
theorem dX5_mainOf_2 : decode cX5_mainOf 2 = .ok (.iload_n 3, 1) := by decide +kernel
theorem dX5_mainOf_3 : decode cX5_mainOf 3 = .ok (.aload_n 0, 1) := by decide +kernel
theorem dX5_mainOf_4 : decode cX5_mainOf 4 = .ok (.getfield 33, 3) := by decide +kernel
theorem dX5_mainOf_7 : decode cX5_mainOf 7 = .ok (.if_icmp .ge 45, 3) := by decide +kernel
theorem dX5_mainOf_10 : decode cX5_mainOf 10 = .ok (.aload_n 0, 1) := by decide +kernel
theorem dX5_mainOf_11 : decode cX5_mainOf 11 = .ok (.getfield 9, 3) := by decide +kernel
theorem dX5_mainOf_14 : decode cX5_mainOf 14 = .ok (.iload_n 3, 1) := by decide +kernel
theorem dX5_mainOf_15 : decode cX5_mainOf 15 = .ok (.iaload, 1) := by decide +kernel
theorem dX5_mainOf_16 : decode cX5_mainOf 16 = .ok (.iload_n 1, 1) := by decide +kernel
theorem dX5_mainOf_17 : decode cX5_mainOf 17 = .ok (.if_icmp .ne 29, 3) := by decide +kernel
theorem dX5_mainOf_20 : decode cX5_mainOf 20 = .ok (.aload_n 0, 1) := by decide +kernel
theorem dX5_mainOf_21 : decode cX5_mainOf 21 = .ok (.getfield 15, 3) := by decide +kernel
theorem dX5_mainOf_24 : decode cX5_mainOf 24 = .ok (.iload_n 3, 1) := by decide +kernel
theorem dX5_mainOf_25 : decode cX5_mainOf 25 = .ok (.iaload, 1) := by decide +kernel
theorem dX5_mainOf_26 : decode cX5_mainOf 26 = .ok (.iconst 5, 1) := by decide +kernel
theorem dX5_mainOf_27 : decode cX5_mainOf 27 = .ok (.if_icmp .eq 19, 3) := by decide +kernel
theorem dX5_mainOf_30 : decode cX5_mainOf 30 = .ok (.aload_n 0, 1) := by decide +kernel
theorem dX5_mainOf_31 : decode cX5_mainOf 31 = .ok (.iload_n 3, 1) := by decide +kernel
theorem dX5_mainOf_32 : decode cX5_mainOf 32 = .ok (.iload_n 2, 1) := by decide +kernel
theorem dX5_mainOf_33 : decode cX5_mainOf 33 = .ok (.invokevirtual 44, 3) := by decide +kernel
theorem dX5_mainOf_36 : decode cX5_mainOf 36 = .ok (.ifCond .eq 10, 3) := by decide +kernel
theorem dX5_mainOf_39 : decode cX5_mainOf 39 = .ok (.aload_n 0, 1) := by decide +kernel
theorem dX5_mainOf_40 : decode cX5_mainOf 40 = .ok (.getfield 15, 3) := by decide +kernel
theorem dX5_mainOf_43 : decode cX5_mainOf 43 = .ok (.iload_n 3, 1) := by decide +kernel
theorem dX5_mainOf_44 : decode cX5_mainOf 44 = .ok (.iaload, 1) := by decide +kernel
theorem dX5_mainOf_45 : decode cX5_mainOf 45 = .ok (.ireturn, 1) := by decide +kernel
theorem dX5_mainOf_46 : decode cX5_mainOf 46 = .ok (.iinc 3 1, 3) := by decide +kernel
theorem dX5_mainOf_49 : decode cX5_mainOf 49 = .ok (.goto (-47), 3) := by decide +kernel
theorem dX5_mainOf_52 : decode cX5_mainOf 52 = .ok (.iconst (-1), 1) := by decide +kernel
theorem dX5_mainOf_53 : decode cX5_mainOf 53 = .ok (.ireturn, 1) := by decide +kernel
theorem dX5_knownPoints_0 : decode cX5_knownPoints 0 = .ok (.aload_n 0, 1) := by decide +kernel
theorem dX5_knownPoints_1 : decode cX5_knownPoints 1 = .ok (.iconst 5, 1) := by decide +kernel
theorem dX5_knownPoints_2 : decode cX5_knownPoints 2 = .ok (.iload_n 1, 1) := by decide +kernel
theorem dX5_knownPoints_3 : decode cX5_knownPoints 3 = .ok (.iload_n 2, 1) := by decide +kernel
theorem dX5_knownPoints_4 : decode cX5_knownPoints 4 = .ok (.iload_n 3, 1) := by decide +kernel
theorem dX5_knownPoints_5 : decode cX5_knownPoints 5 = .ok (.invokevirtual 48, 3) := by decide +kernel
theorem dX5_knownPoints_8 : decode cX5_knownPoints 8 = .ok (.istore 4, 2) := by decide +kernel
theorem dX5_knownPoints_10 : decode cX5_knownPoints 10 = .ok (.iload 4, 2) := by decide +kernel
theorem dX5_knownPoints_12 : decode cX5_knownPoints 12 = .ok (.iconst (-1), 1) := by decide +kernel
theorem dX5_knownPoints_13 : decode cX5_knownPoints 13 = .ok (.if_icmp .ne 18, 3) := by decide +kernel
theorem dX5_knownPoints_16 : decode cX5_knownPoints 16 = .ok (.aload_n 0, 1) := by decide +kernel
theorem dX5_knownPoints_17 : decode cX5_knownPoints 17 = .ok (.aload_n 0, 1) := by decide +kernel
theorem dX5_knownPoints_18 : decode cX5_knownPoints 18 = .ok (.iload_n 1, 1) := by decide +kernel
theorem dX5_knownPoints_19 : decode cX5_knownPoints 19 = .ok (.iload_n 3, 1) := by decide +kernel
theorem dX5_knownPoints_20 : decode cX5_knownPoints 20 = .ok (.invokevirtual 52, 3) := by decide +kernel
theorem dX5_knownPoints_23 : decode cX5_knownPoints 23 = .ok (.iload_n 1, 1) := by decide +kernel
theorem dX5_knownPoints_24 : decode cX5_knownPoints 24 = .ok (.iload_n 2, 1) := by decide +kernel
theorem dX5_knownPoints_25 : decode cX5_knownPoints 25 = .ok (.iload_n 3, 1) := by decide +kernel
theorem dX5_knownPoints_26 : decode cX5_knownPoints 26 = .ok (.invokevirtual 48, 3) := by decide +kernel
theorem dX5_knownPoints_29 : decode cX5_knownPoints 29 = .ok (.istore 4, 2) := by decide +kernel
theorem dX5_knownPoints_31 : decode cX5_knownPoints 31 = .ok (.iload 4, 2) := by decide +kernel
theorem dX5_knownPoints_33 : decode cX5_knownPoints 33 = .ok (.iconst (-1), 1) := by decide +kernel
theorem dX5_knownPoints_34 : decode cX5_knownPoints 34 = .ok (.if_icmp .ne 7, 3) := by decide +kernel
theorem dX5_knownPoints_37 : decode cX5_knownPoints 37 = .ok (.iconst (-1), 1) := by decide +kernel
theorem dX5_knownPoints_38 : decode cX5_knownPoints 38 = .ok (.goto 10, 3) := by decide +kernel
theorem dX5_knownPoints_41 : decode cX5_knownPoints 41 = .ok (.aload_n 0, 1) := by decide +kernel
theorem dX5_knownPoints_42 : decode cX5_knownPoints 42 = .ok (.getfield 21, 3) := by decide +kernel
theorem dX5_knownPoints_45 : decode cX5_knownPoints 45 = .ok (.iload 4, 2) := by decide +kernel
theorem dX5_knownPoints_47 : decode cX5_knownPoints 47 = .ok (.iaload, 1) := by decide +kernel
theorem dX5_knownPoints_48 : decode cX5_knownPoints 48 = .ok (.ireturn, 1) := by decide +kernel
theorem dX5_lastOf_0 : decode cX5_lastOf 0 = .ok (.aload_n 0, 1) := by decide +kernel
theorem dX5_lastOf_1 : decode cX5_lastOf 1 = .ok (.getfield 33, 3) := by decide +kernel
theorem dX5_lastOf_4 : decode cX5_lastOf 4 = .ok (.iconst 1, 1) := by decide +kernel
theorem dX5_lastOf_5 : decode cX5_lastOf 5 = .ok (.isub, 1) := by decide +kernel
theorem dX5_lastOf_6 : decode cX5_lastOf 6 = .ok (.istore 5, 2) := by decide +kernel
theorem dX5_lastOf_8 : decode cX5_lastOf 8 = .ok (.iload 5, 2) := by decide +kernel
theorem dX5_lastOf_10 : decode cX5_lastOf 10 = .ok (.ifCond .lt 56, 3) := by decide +kernel
theorem dX5_lastOf_13 : decode cX5_lastOf 13 = .ok (.aload_n 0, 1) := by decide +kernel
theorem dX5_lastOf_14 : decode cX5_lastOf 14 = .ok (.getfield 15, 3) := by decide +kernel
theorem dX5_lastOf_17 : decode cX5_lastOf 17 = .ok (.iload 5, 2) := by decide +kernel
theorem dX5_lastOf_19 : decode cX5_lastOf 19 = .ok (.iaload, 1) := by decide +kernel
theorem dX5_lastOf_20 : decode cX5_lastOf 20 = .ok (.iload_n 1, 1) := by decide +kernel
theorem dX5_lastOf_21 : decode cX5_lastOf 21 = .ok (.if_icmp .ne 39, 3) := by decide +kernel
theorem dX5_lastOf_24 : decode cX5_lastOf 24 = .ok (.aload_n 0, 1) := by decide +kernel
theorem dX5_lastOf_25 : decode cX5_lastOf 25 = .ok (.getfield 9, 3) := by decide +kernel
theorem dX5_lastOf_28 : decode cX5_lastOf 28 = .ok (.iload 5, 2) := by decide +kernel
theorem dX5_lastOf_30 : decode cX5_lastOf 30 = .ok (.iaload, 1) := by decide +kernel
theorem dX5_lastOf_31 : decode cX5_lastOf 31 = .ok (.iload_n 2, 1) := by decide +kernel
theorem dX5_lastOf_32 : decode cX5_lastOf 32 = .ok (.if_icmp .ne 28, 3) := by decide +kernel
theorem dX5_lastOf_35 : decode cX5_lastOf 35 = .ok (.aload_n 0, 1) := by decide +kernel
theorem dX5_lastOf_36 : decode cX5_lastOf 36 = .ok (.getfield 18, 3) := by decide +kernel
theorem dX5_lastOf_39 : decode cX5_lastOf 39 = .ok (.iload 5, 2) := by decide +kernel
theorem dX5_lastOf_41 : decode cX5_lastOf 41 = .ok (.iaload, 1) := by decide +kernel
theorem dX5_lastOf_42 : decode cX5_lastOf 42 = .ok (.iload_n 3, 1) := by decide +kernel
theorem dX5_lastOf_43 : decode cX5_lastOf 43 = .ok (.if_icmp .ne 17, 3) := by decide +kernel
theorem dX5_lastOf_46 : decode cX5_lastOf 46 = .ok (.aload_n 0, 1) := by decide +kernel
theorem dX5_lastOf_47 : decode cX5_lastOf 47 = .ok (.iload 5, 2) := by decide +kernel
theorem dX5_lastOf_49 : decode cX5_lastOf 49 = .ok (.iload 4, 2) := by decide +kernel
theorem dX5_lastOf_51 : decode cX5_lastOf 51 = .ok (.invokevirtual 44, 3) := by decide +kernel
theorem dX5_lastOf_54 : decode cX5_lastOf 54 = .ok (.ifCond .eq 6, 3) := by decide +kernel
theorem dX5_lastOf_57 : decode cX5_lastOf 57 = .ok (.iload 5, 2) := by decide +kernel
theorem dX5_lastOf_59 : decode cX5_lastOf 59 = .ok (.ireturn, 1) := by decide +kernel
theorem dX5_lastOf_60 : decode cX5_lastOf 60 = .ok (.iinc 5 (-1), 3) := by decide +kernel
theorem dX5_lastOf_63 : decode cX5_lastOf 63 = .ok (.goto (-55), 3) := by decide +kernel
theorem dX5_lastOf_66 : decode cX5_lastOf 66 = .ok (.iconst (-1), 1) := by decide +kernel
theorem dX5_lastOf_67 : decode cX5_lastOf 67 = .ok (.ireturn, 1) := by decide +kernel
theorem dX5_hardnessOf_0 : decode cX5_hardnessOf 0 = .ok (.iconst 0, 1) := by decide +kernel
theorem dX5_hardnessOf_1 : decode cX5_hardnessOf 1 = .ok (.istore_n 3, 1) := by decide +kernel
theorem dX5_hardnessOf_2 : decode cX5_hardnessOf 2 = .ok (.iconst 0, 1) := by decide +kernel
theorem dX5_hardnessOf_3 : decode cX5_hardnessOf 3 = .ok (.istore 4, 2) := by decide +kernel
theorem dX5_hardnessOf_5 : decode cX5_hardnessOf 5 = .ok (.iload 4, 2) := by decide +kernel
theorem dX5_hardnessOf_7 : decode cX5_hardnessOf 7 = .ok (.aload_n 0, 1) := by decide +kernel
theorem dX5_hardnessOf_8 : decode cX5_hardnessOf 8 = .ok (.getfield 33, 3) := by decide +kernel
theorem dX5_hardnessOf_11 : decode cX5_hardnessOf 11 = .ok (.if_icmp .ge 134, 3) := by decide +kernel
theorem dX5_hardnessOf_14 : decode cX5_hardnessOf 14 = .ok (.aload_n 0, 1) := by decide +kernel
theorem dX5_hardnessOf_15 : decode cX5_hardnessOf 15 = .ok (.getfield 15, 3) := by decide +kernel
theorem dX5_hardnessOf_18 : decode cX5_hardnessOf 18 = .ok (.iload 4, 2) := by decide +kernel
theorem dX5_hardnessOf_20 : decode cX5_hardnessOf 20 = .ok (.iaload, 1) := by decide +kernel
theorem dX5_hardnessOf_21 : decode cX5_hardnessOf 21 = .ok (.iload_n 1, 1) := by decide +kernel
theorem dX5_hardnessOf_22 : decode cX5_hardnessOf 22 = .ok (.if_icmp .ne 35, 3) := by decide +kernel
theorem dX5_hardnessOf_25 : decode cX5_hardnessOf 25 = .ok (.aload_n 0, 1) := by decide +kernel
theorem dX5_hardnessOf_26 : decode cX5_hardnessOf 26 = .ok (.iload_n 1, 1) := by decide +kernel
theorem dX5_hardnessOf_27 : decode cX5_hardnessOf 27 = .ok (.aload_n 0, 1) := by decide +kernel
theorem dX5_hardnessOf_28 : decode cX5_hardnessOf 28 = .ok (.getfield 9, 3) := by decide +kernel
theorem dX5_hardnessOf_31 : decode cX5_hardnessOf 31 = .ok (.iload 4, 2) := by decide +kernel
theorem dX5_hardnessOf_33 : decode cX5_hardnessOf 33 = .ok (.iaload, 1) := by decide +kernel
theorem dX5_hardnessOf_34 : decode cX5_hardnessOf 34 = .ok (.aload_n 0, 1) := by decide +kernel
theorem dX5_hardnessOf_35 : decode cX5_hardnessOf 35 = .ok (.getfield 18, 3) := by decide +kernel
theorem dX5_hardnessOf_38 : decode cX5_hardnessOf 38 = .ok (.iload 4, 2) := by decide +kernel
theorem dX5_hardnessOf_40 : decode cX5_hardnessOf 40 = .ok (.iaload, 1) := by decide +kernel
theorem dX5_hardnessOf_41 : decode cX5_hardnessOf 41 = .ok (.aload_n 0, 1) := by decide +kernel
theorem dX5_hardnessOf_42 : decode cX5_hardnessOf 42 = .ok (.getfield 37, 3) := by decide +kernel
theorem dX5_hardnessOf_45 : decode cX5_hardnessOf 45 = .ok (.invokevirtual 48, 3) := by decide +kernel
theorem dX5_hardnessOf_48 : decode cX5_hardnessOf 48 = .ok (.iload 4, 2) := by decide +kernel
theorem dX5_hardnessOf_50 : decode cX5_hardnessOf 50 = .ok (.if_icmp .ne 7, 3) := by decide +kernel
theorem dX5_hardnessOf_53 : decode cX5_hardnessOf 53 = .ok (.iconst 1, 1) := by decide +kernel
theorem dX5_hardnessOf_54 : decode cX5_hardnessOf 54 = .ok (.goto 4, 3) := by decide +kernel
theorem dX5_hardnessOf_57 : decode cX5_hardnessOf 57 = .ok (.iconst 0, 1) := by decide +kernel
theorem dX5_hardnessOf_58 : decode cX5_hardnessOf 58 = .ok (.istore 5, 2) := by decide +kernel
theorem dX5_hardnessOf_60 : decode cX5_hardnessOf 60 = .ok (.iconst 0, 1) := by decide +kernel
theorem dX5_hardnessOf_61 : decode cX5_hardnessOf 61 = .ok (.istore 6, 2) := by decide +kernel
theorem dX5_hardnessOf_63 : decode cX5_hardnessOf 63 = .ok (.iload 5, 2) := by decide +kernel
theorem dX5_hardnessOf_65 : decode cX5_hardnessOf 65 = .ok (.ifCond .eq 74, 3) := by decide +kernel
theorem dX5_hardnessOf_68 : decode cX5_hardnessOf 68 = .ok (.iload 6, 2) := by decide +kernel
theorem dX5_hardnessOf_70 : decode cX5_hardnessOf 70 = .ok (.iload_n 2, 1) := by decide +kernel
theorem dX5_hardnessOf_71 : decode cX5_hardnessOf 71 = .ok (.if_icmp .ge 68, 3) := by decide +kernel
theorem dX5_hardnessOf_74 : decode cX5_hardnessOf 74 = .ok (.aload_n 0, 1) := by decide +kernel
theorem dX5_hardnessOf_75 : decode cX5_hardnessOf 75 = .ok (.iload 6, 2) := by decide +kernel
theorem dX5_hardnessOf_77 : decode cX5_hardnessOf 77 = .ok (.aload_n 0, 1) := by decide +kernel
theorem dX5_hardnessOf_78 : decode cX5_hardnessOf 78 = .ok (.getfield 9, 3) := by decide +kernel
theorem dX5_hardnessOf_81 : decode cX5_hardnessOf 81 = .ok (.iload 4, 2) := by decide +kernel
theorem dX5_hardnessOf_83 : decode cX5_hardnessOf 83 = .ok (.iaload, 1) := by decide +kernel
theorem dX5_hardnessOf_84 : decode cX5_hardnessOf 84 = .ok (.aload_n 0, 1) := by decide +kernel
theorem dX5_hardnessOf_85 : decode cX5_hardnessOf 85 = .ok (.getfield 18, 3) := by decide +kernel
theorem dX5_hardnessOf_88 : decode cX5_hardnessOf 88 = .ok (.iload 4, 2) := by decide +kernel
theorem dX5_hardnessOf_90 : decode cX5_hardnessOf 90 = .ok (.iaload, 1) := by decide +kernel
theorem dX5_hardnessOf_91 : decode cX5_hardnessOf 91 = .ok (.aload_n 0, 1) := by decide +kernel
theorem dX5_hardnessOf_92 : decode cX5_hardnessOf 92 = .ok (.getfield 37, 3) := by decide +kernel
theorem dX5_hardnessOf_95 : decode cX5_hardnessOf 95 = .ok (.invokevirtual 48, 3) := by decide +kernel
theorem dX5_hardnessOf_98 : decode cX5_hardnessOf 98 = .ok (.istore 7, 2) := by decide +kernel
theorem dX5_hardnessOf_100 : decode cX5_hardnessOf 100 = .ok (.iload 6, 2) := by decide +kernel
theorem dX5_hardnessOf_102 : decode cX5_hardnessOf 102 = .ok (.iload_n 1, 1) := by decide +kernel
theorem dX5_hardnessOf_103 : decode cX5_hardnessOf 103 = .ok (.if_icmp .eq 30, 3) := by decide +kernel
theorem dX5_hardnessOf_106 : decode cX5_hardnessOf 106 = .ok (.iload 7, 2) := by decide +kernel
theorem dX5_hardnessOf_108 : decode cX5_hardnessOf 108 = .ok (.iconst (-1), 1) := by decide +kernel
theorem dX5_hardnessOf_109 : decode cX5_hardnessOf 109 = .ok (.if_icmp .eq 24, 3) := by decide +kernel
theorem dX5_hardnessOf_112 : decode cX5_hardnessOf 112 = .ok (.aload_n 0, 1) := by decide +kernel
theorem dX5_hardnessOf_113 : decode cX5_hardnessOf 113 = .ok (.aload_n 0, 1) := by decide +kernel
theorem dX5_hardnessOf_114 : decode cX5_hardnessOf 114 = .ok (.getfield 21, 3) := by decide +kernel
theorem dX5_hardnessOf_117 : decode cX5_hardnessOf 117 = .ok (.iload 7, 2) := by decide +kernel
theorem dX5_hardnessOf_119 : decode cX5_hardnessOf 119 = .ok (.iaload, 1) := by decide +kernel
theorem dX5_hardnessOf_120 : decode cX5_hardnessOf 120 = .ok (.aload_n 0, 1) := by decide +kernel
theorem dX5_hardnessOf_121 : decode cX5_hardnessOf 121 = .ok (.getfield 21, 3) := by decide +kernel
theorem dX5_hardnessOf_124 : decode cX5_hardnessOf 124 = .ok (.iload 4, 2) := by decide +kernel
theorem dX5_hardnessOf_126 : decode cX5_hardnessOf 126 = .ok (.iaload, 1) := by decide +kernel
theorem dX5_hardnessOf_127 : decode cX5_hardnessOf 127 = .ok (.isub, 1) := by decide +kernel
theorem dX5_hardnessOf_128 : decode cX5_hardnessOf 128 = .ok (.iload_n 3, 1) := by decide +kernel
theorem dX5_hardnessOf_129 : decode cX5_hardnessOf 129 = .ok (.invokevirtual 56, 3) := by decide +kernel
theorem dX5_hardnessOf_132 : decode cX5_hardnessOf 132 = .ok (.istore_n 3, 1) := by decide +kernel
theorem dX5_hardnessOf_133 : decode cX5_hardnessOf 133 = .ok (.iinc 6 1, 3) := by decide +kernel
theorem dX5_hardnessOf_136 : decode cX5_hardnessOf 136 = .ok (.goto (-73), 3) := by decide +kernel
theorem dX5_hardnessOf_139 : decode cX5_hardnessOf 139 = .ok (.iinc 4 1, 3) := by decide +kernel
theorem dX5_hardnessOf_142 : decode cX5_hardnessOf 142 = .ok (.goto (-137), 3) := by decide +kernel
theorem dX5_hardnessOf_145 : decode cX5_hardnessOf 145 = .ok (.iload_n 3, 1) := by decide +kernel
theorem dX5_hardnessOf_146 : decode cX5_hardnessOf 146 = .ok (.ifCond .ne 9, 3) := by decide +kernel
theorem dX5_hardnessOf_149 : decode cX5_hardnessOf 149 = .ok (.sipush (-1000), 3) := by decide +kernel
theorem dX5_hardnessOf_152 : decode cX5_hardnessOf 152 = .ok (.goto 13, 3) := by decide +kernel
theorem dX5_hardnessOf_155 : decode cX5_hardnessOf 155 = .ok (.aload_n 0, 1) := by decide +kernel
theorem dX5_hardnessOf_156 : decode cX5_hardnessOf 156 = .ok (.getfield 30, 3) := by decide +kernel
theorem dX5_hardnessOf_159 : decode cX5_hardnessOf 159 = .ok (.iload_n 3, 1) := by decide +kernel
theorem dX5_hardnessOf_160 : decode cX5_hardnessOf 160 = .ok (.iconst 1, 1) := by decide +kernel
theorem dX5_hardnessOf_161 : decode cX5_hardnessOf 161 = .ok (.isub, 1) := by decide +kernel
theorem dX5_hardnessOf_162 : decode cX5_hardnessOf 162 = .ok (.iconst 2, 1) := by decide +kernel
theorem dX5_hardnessOf_163 : decode cX5_hardnessOf 163 = .ok (.idiv, 1) := by decide +kernel
theorem dX5_hardnessOf_164 : decode cX5_hardnessOf 164 = .ok (.iaload, 1) := by decide +kernel
theorem dX5_hardnessOf_165 : decode cX5_hardnessOf 165 = .ok (.ireturn, 1) := by decide +kernel
theorem dX5_insertGap_0 : decode cX5_insertGap 0 = .ok (.iload_n 2, 1) := by decide +kernel
theorem dX5_insertGap_1 : decode cX5_insertGap 1 = .ok (.sipush 200, 3) := by decide +kernel
theorem dX5_insertGap_4 : decode cX5_insertGap 4 = .ok (.if_icmp .lt 5, 3) := by decide +kernel
theorem dX5_insertGap_7 : decode cX5_insertGap 7 = .ok (.iload_n 2, 1) := by decide +kernel
theorem dX5_insertGap_8 : decode cX5_insertGap 8 = .ok (.ireturn, 1) := by decide +kernel
theorem dX5_insertGap_9 : decode cX5_insertGap 9 = .ok (.iload_n 2, 1) := by decide +kernel
theorem dX5_insertGap_10 : decode cX5_insertGap 10 = .ok (.istore_n 3, 1) := by decide +kernel
theorem dX5_insertGap_11 : decode cX5_insertGap 11 = .ok (.iload_n 3, 1) := by decide +kernel
theorem dX5_insertGap_12 : decode cX5_insertGap 12 = .ok (.ifCond .le 35, 3) := by decide +kernel
theorem dX5_insertGap_15 : decode cX5_insertGap 15 = .ok (.aload_n 0, 1) := by decide +kernel
theorem dX5_insertGap_16 : decode cX5_insertGap 16 = .ok (.getfield 30, 3) := by decide +kernel
theorem dX5_insertGap_19 : decode cX5_insertGap 19 = .ok (.iload_n 3, 1) := by decide +kernel
theorem dX5_insertGap_20 : decode cX5_insertGap 20 = .ok (.iconst 1, 1) := by decide +kernel
theorem dX5_insertGap_21 : decode cX5_insertGap 21 = .ok (.isub, 1) := by decide +kernel
theorem dX5_insertGap_22 : decode cX5_insertGap 22 = .ok (.iaload, 1) := by decide +kernel
theorem dX5_insertGap_23 : decode cX5_insertGap 23 = .ok (.iload_n 1, 1) := by decide +kernel
theorem dX5_insertGap_24 : decode cX5_insertGap 24 = .ok (.if_icmp .le 23, 3) := by decide +kernel
theorem dX5_insertGap_27 : decode cX5_insertGap 27 = .ok (.aload_n 0, 1) := by decide +kernel
theorem dX5_insertGap_28 : decode cX5_insertGap 28 = .ok (.getfield 30, 3) := by decide +kernel
theorem dX5_insertGap_31 : decode cX5_insertGap 31 = .ok (.iload_n 3, 1) := by decide +kernel
theorem dX5_insertGap_32 : decode cX5_insertGap 32 = .ok (.aload_n 0, 1) := by decide +kernel
theorem dX5_insertGap_33 : decode cX5_insertGap 33 = .ok (.getfield 30, 3) := by decide +kernel
theorem dX5_insertGap_36 : decode cX5_insertGap 36 = .ok (.iload_n 3, 1) := by decide +kernel
theorem dX5_insertGap_37 : decode cX5_insertGap 37 = .ok (.iconst 1, 1) := by decide +kernel
theorem dX5_insertGap_38 : decode cX5_insertGap 38 = .ok (.isub, 1) := by decide +kernel
theorem dX5_insertGap_39 : decode cX5_insertGap 39 = .ok (.iaload, 1) := by decide +kernel
theorem dX5_insertGap_40 : decode cX5_insertGap 40 = .ok (.iastore, 1) := by decide +kernel
theorem dX5_insertGap_41 : decode cX5_insertGap 41 = .ok (.iinc 3 (-1), 3) := by decide +kernel
theorem dX5_insertGap_44 : decode cX5_insertGap 44 = .ok (.goto (-33), 3) := by decide +kernel
theorem dX5_insertGap_47 : decode cX5_insertGap 47 = .ok (.aload_n 0, 1) := by decide +kernel
theorem dX5_insertGap_48 : decode cX5_insertGap 48 = .ok (.getfield 30, 3) := by decide +kernel
theorem dX5_insertGap_51 : decode cX5_insertGap 51 = .ok (.iload_n 3, 1) := by decide +kernel
theorem dX5_insertGap_52 : decode cX5_insertGap 52 = .ok (.iload_n 1, 1) := by decide +kernel
theorem dX5_insertGap_53 : decode cX5_insertGap 53 = .ok (.iastore, 1) := by decide +kernel
theorem dX5_insertGap_54 : decode cX5_insertGap 54 = .ok (.iload_n 2, 1) := by decide +kernel
theorem dX5_insertGap_55 : decode cX5_insertGap 55 = .ok (.iconst 1, 1) := by decide +kernel
theorem dX5_insertGap_56 : decode cX5_insertGap 56 = .ok (.iadd, 1) := by decide +kernel
theorem dX5_insertGap_57 : decode cX5_insertGap 57 = .ok (.ireturn, 1) := by decide +kernel
theorem dX6_init_0 : decode cX6_init 0 = .ok (.aload_n 0, 1) := by decide +kernel
theorem dX6_init_1 : decode cX6_init 1 = .ok (.invokespecial 3, 3) := by decide +kernel
theorem dX6_init_4 : decode cX6_init 4 = .ok (.aload_n 0, 1) := by decide +kernel
theorem dX6_init_5 : decode cX6_init 5 = .ok (.new 9, 3) := by decide +kernel
theorem dX6_init_8 : decode cX6_init 8 = .ok (.dup, 1) := by decide +kernel
theorem dX6_init_9 : decode cX6_init 9 = .ok (.invokespecial 11, 3) := by decide +kernel
theorem dX6_init_12 : decode cX6_init 12 = .ok (.putfield 12, 3) := by decide +kernel
theorem dX6_init_15 : decode cX6_init 15 = .ok (.aload_n 0, 1) := by decide +kernel
theorem dX6_init_16 : decode cX6_init 16 = .ok (.iconst (-1), 1) := by decide +kernel
theorem dX6_init_17 : decode cX6_init 17 = .ok (.putfield 18, 3) := by decide +kernel
theorem dX6_init_20 : decode cX6_init 20 = .ok (.aload_n 0, 1) := by decide +kernel
theorem dX6_init_21 : decode cX6_init 21 = .ok (.new 22, 3) := by decide +kernel
theorem dX6_init_24 : decode cX6_init 24 = .ok (.dup, 1) := by decide +kernel
theorem dX6_init_25 : decode cX6_init 25 = .ok (.invokespecial 24, 3) := by decide +kernel
theorem dX6_init_28 : decode cX6_init 28 = .ok (.putfield 25, 3) := by decide +kernel
theorem dX6_init_31 : decode cX6_init 31 = .ok (.return_, 1) := by decide +kernel
theorem dX6_read_0 : decode cX6_read 0 = .ok (.aload_n 0, 1) := by decide +kernel
theorem dX6_read_1 : decode cX6_read 1 = .ok (.iconst 0, 1) := by decide +kernel
theorem dX6_read_2 : decode cX6_read 2 = .ok (.putfield 29, 3) := by decide +kernel
theorem dX6_read_5 : decode cX6_read 5 = .ok (.aload_n 0, 1) := by decide +kernel
theorem dX6_read_6 : decode cX6_read 6 = .ok (.iconst (-1), 1) := by decide +kernel
theorem dX6_read_7 : decode cX6_read 7 = .ok (.putfield 18, 3) := by decide +kernel
theorem dX6_read_10 : decode cX6_read 10 = .ok (.aload_n 0, 1) := by decide +kernel
theorem dX6_read_11 : decode cX6_read 11 = .ok (.iconst 0, 1) := by decide +kernel
theorem dX6_read_12 : decode cX6_read 12 = .ok (.putfield 32, 3) := by decide +kernel
theorem dX6_read_15 : decode cX6_read 15 = .ok (.aload_n 0, 1) := by decide +kernel
theorem dX6_read_16 : decode cX6_read 16 = .ok (.getfield 25, 3) := by decide +kernel
theorem dX6_read_19 : decode cX6_read 19 = .ok (.invokevirtual 35, 3) := by decide +kernel
theorem dX6_read_22 : decode cX6_read 22 = .ok (.aload_n 0, 1) := by decide +kernel
theorem dX6_read_23 : decode cX6_read 23 = .ok (.getfield 12, 3) := by decide +kernel
theorem dX6_read_26 : decode cX6_read 26 = .ok (.invokevirtual 38, 3) := by decide +kernel
theorem dX6_read_29 : decode cX6_read 29 = .ok (.aconst_null, 1) := by decide +kernel
theorem dX6_read_30 : decode cX6_read 30 = .ok (.astore_n 1, 1) := by decide +kernel
theorem dX6_read_31 : decode cX6_read 31 = .ok (.iconst 0, 1) := by decide +kernel
theorem dX6_read_32 : decode cX6_read 32 = .ok (.istore_n 2, 1) := by decide +kernel
theorem dX6_read_33 : decode cX6_read 33 = .ok (.iload_n 2, 1) := by decide +kernel
theorem dX6_read_34 : decode cX6_read 34 = .ok (.sipush 1400, 3) := by decide +kernel
theorem dX6_read_37 : decode cX6_read 37 = .ok (.if_icmp .ge 67, 3) := by decide +kernel
theorem dX6_read_40 : decode cX6_read 40 = .ok (.aload_n 0, 1) := by decide +kernel
theorem dX6_read_41 : decode cX6_read 41 = .ok (.getfield 29, 3) := by decide +kernel
theorem dX6_read_44 : decode cX6_read 44 = .ok (.ifCond .ne 60, 3) := by decide +kernel
theorem dX6_read_47 : decode cX6_read 47 = .ok (.aload_n 0, 1) := by decide +kernel
theorem dX6_read_48 : decode cX6_read 48 = .ok (.getfield 12, 3) := by decide +kernel
theorem dX6_read_51 : decode cX6_read 51 = .ok (.getfield 41, 3) := by decide +kernel
theorem dX6_read_54 : decode cX6_read 54 = .ok (.ifCond .eq 50, 3) := by decide +kernel
theorem dX6_read_57 : decode cX6_read 57 = .ok (.aload_n 1, 1) := by decide +kernel
theorem dX6_read_58 : decode cX6_read 58 = .ok (.ifnonnull 11, 3) := by decide +kernel
theorem dX6_read_61 : decode cX6_read 61 = .ok (.aload_n 0, 1) := by decide +kernel
theorem dX6_read_62 : decode cX6_read 62 = .ok (.invokevirtual 44, 3) := by decide +kernel
theorem dX6_read_65 : decode cX6_read 65 = .ok (.astore_n 1, 1) := by decide +kernel
theorem dX6_read_66 : decode cX6_read 66 = .ok (.goto 32, 3) := by decide +kernel
theorem dX6_read_69 : decode cX6_read 69 = .ok (.aload_n 0, 1) := by decide +kernel
theorem dX6_read_70 : decode cX6_read 70 = .ok (.getfield 12, 3) := by decide +kernel
theorem dX6_read_73 : decode cX6_read 73 = .ok (.getfield 41, 3) := by decide +kernel
theorem dX6_read_76 : decode cX6_read 76 = .ok (.bipush 125, 2) := by decide +kernel
theorem dX6_read_78 : decode cX6_read 78 = .ok (.if_icmp .ne 15, 3) := by decide +kernel
theorem dX6_read_81 : decode cX6_read 81 = .ok (.aconst_null, 1) := by decide +kernel
theorem dX6_read_82 : decode cX6_read 82 = .ok (.astore_n 1, 1) := by decide +kernel
theorem dX6_read_83 : decode cX6_read 83 = .ok (.aload_n 0, 1) := by decide +kernel
theorem dX6_read_84 : decode cX6_read 84 = .ok (.getfield 12, 3) := by decide +kernel
theorem dX6_read_87 : decode cX6_read 87 = .ok (.invokevirtual 48, 3) := by decide +kernel
theorem dX6_read_90 : decode cX6_read 90 = .ok (.goto 8, 3) := by decide +kernel
theorem dX6_read_93 : decode cX6_read 93 = .ok (.aload_n 0, 1) := by decide +kernel
theorem dX6_read_94 : decode cX6_read 94 = .ok (.aload_n 1, 1) := by decide +kernel
theorem dX6_read_95 : decode cX6_read 95 = .ok (.invokevirtual 51, 3) := by decide +kernel
theorem dX6_read_98 : decode cX6_read 98 = .ok (.iinc 2 1, 3) := by decide +kernel
theorem dX6_read_101 : decode cX6_read 101 = .ok (.goto (-68), 3) := by decide +kernel
theorem dX6_read_104 : decode cX6_read 104 = .ok (.aload_n 1, 1) := by decide +kernel
theorem dX6_read_105 : decode cX6_read 105 = .ok (.ifnull 7, 3) := by decide +kernel
theorem dX6_read_108 : decode cX6_read 108 = .ok (.aload_n 0, 1) := by decide +kernel
theorem dX6_read_109 : decode cX6_read 109 = .ok (.invokevirtual 55, 3) := by decide +kernel
theorem dX6_read_112 : decode cX6_read 112 = .ok (.return_, 1) := by decide +kernel
theorem dX6_exchange_0 : decode cX6_exchange 0 = .ok (.aload_n 0, 1) := by decide +kernel
theorem dX6_exchange_1 : decode cX6_exchange 1 = .ok (.getfield 25, 3) := by decide +kernel
theorem dX6_exchange_4 : decode cX6_exchange 4 = .ok (.astore_n 2, 1) := by decide +kernel
theorem dX6_exchange_5 : decode cX6_exchange 5 = .ok (.aload_n 0, 1) := by decide +kernel
theorem dX6_exchange_6 : decode cX6_exchange 6 = .ok (.aload_n 1, 1) := by decide +kernel
theorem dX6_exchange_7 : decode cX6_exchange 7 = .ok (.ifnonnull 13, 3) := by decide +kernel
theorem dX6_exchange_10 : decode cX6_exchange 10 = .ok (.new 22, 3) := by decide +kernel
theorem dX6_exchange_13 : decode cX6_exchange 13 = .ok (.dup, 1) := by decide +kernel
theorem dX6_exchange_14 : decode cX6_exchange 14 = .ok (.invokespecial 24, 3) := by decide +kernel
theorem dX6_exchange_17 : decode cX6_exchange 17 = .ok (.goto 4, 3) := by decide +kernel
theorem dX6_exchange_20 : decode cX6_exchange 20 = .ok (.aload_n 1, 1) := by decide +kernel
theorem dX6_exchange_21 : decode cX6_exchange 21 = .ok (.putfield 25, 3) := by decide +kernel
theorem dX6_exchange_24 : decode cX6_exchange 24 = .ok (.aload_n 2, 1) := by decide +kernel
theorem dX6_exchange_25 : decode cX6_exchange 25 = .ok (.areturn, 1) := by decide +kernel
theorem dX6_openGrade_0 : decode cX6_openGrade 0 = .ok (.aload_n 0, 1) := by decide +kernel
theorem dX6_openGrade_1 : decode cX6_openGrade 1 = .ok (.sipush 200, 3) := by decide +kernel
theorem dX6_openGrade_4 : decode cX6_openGrade 4 = .ok (.invokevirtual 58, 3) := by decide +kernel
theorem dX6_openGrade_7 : decode cX6_openGrade 7 = .ok (.aload_n 0, 1) := by decide +kernel
theorem dX6_openGrade_8 : decode cX6_openGrade 8 = .ok (.getfield 12, 3) := by decide +kernel
theorem dX6_openGrade_11 : decode cX6_openGrade 11 = .ok (.getfield 62, 3) := by decide +kernel
theorem dX6_openGrade_14 : decode cX6_openGrade 14 = .ok (.istore_n 1, 1) := by decide +kernel
theorem dX6_openGrade_15 : decode cX6_openGrade 15 = .ok (.aload_n 0, 1) := by decide +kernel
theorem dX6_openGrade_16 : decode cX6_openGrade 16 = .ok (.iconst 1, 1) := by decide +kernel
theorem dX6_openGrade_17 : decode cX6_openGrade 17 = .ok (.bipush 8, 2) := by decide +kernel
theorem dX6_openGrade_19 : decode cX6_openGrade 19 = .ok (.invokevirtual 63, 3) := by decide +kernel
theorem dX6_openGrade_22 : decode cX6_openGrade 22 = .ok (.istore_n 2, 1) := by decide +kernel
theorem dX6_openGrade_23 : decode cX6_openGrade 23 = .ok (.aload_n 0, 1) := by decide +kernel
theorem dX6_openGrade_24 : decode cX6_openGrade 24 = .ok (.getfield 25, 3) := by decide +kernel
theorem dX6_openGrade_27 : decode cX6_openGrade 27 = .ok (.iload_n 2, 1) := by decide +kernel
theorem dX6_openGrade_28 : decode cX6_openGrade 28 = .ok (.invokevirtual 67, 3) := by decide +kernel
theorem dX6_openGrade_31 : decode cX6_openGrade 31 = .ok (.ifnull 9, 3) := by decide +kernel
theorem dX6_openGrade_34 : decode cX6_openGrade 34 = .ok (.aload_n 0, 1) := by decide +kernel
theorem dX6_openGrade_35 : decode cX6_openGrade 35 = .ok (.iconst 3, 1) := by decide +kernel
theorem dX6_openGrade_36 : decode cX6_openGrade 36 = .ok (.iload_n 1, 1) := by decide +kernel
theorem dX6_openGrade_37 : decode cX6_openGrade 37 = .ok (.invokevirtual 71, 3) := by decide +kernel
theorem dX6_openGrade_40 : decode cX6_openGrade 40 = .ok (.aload_n 0, 1) := by decide +kernel
theorem dX6_openGrade_41 : decode cX6_openGrade 41 = .ok (.bipush 123, 2) := by decide +kernel
theorem dX6_openGrade_43 : decode cX6_openGrade 43 = .ok (.invokevirtual 58, 3) := by decide +kernel
theorem dX6_openGrade_46 : decode cX6_openGrade 46 = .ok (.aload_n 0, 1) := by decide +kernel
theorem dX6_openGrade_47 : decode cX6_openGrade 47 = .ok (.getfield 29, 3) := by decide +kernel
theorem dX6_openGrade_50 : decode cX6_openGrade 50 = .ok (.ifCond .ne 14, 3) := by decide +kernel
theorem dX6_openGrade_53 : decode cX6_openGrade 53 = .ok (.aload_n 0, 1) := by decide +kernel
theorem dX6_openGrade_54 : decode cX6_openGrade 54 = .ok (.getfield 25, 3) := by decide +kernel
theorem dX6_openGrade_57 : decode cX6_openGrade 57 = .ok (.iload_n 2, 1) := by decide +kernel
theorem dX6_openGrade_58 : decode cX6_openGrade 58 = .ok (.invokevirtual 75, 3) := by decide +kernel
theorem dX6_openGrade_61 : decode cX6_openGrade 61 = .ok (.goto 4, 3) := by decide +kernel
theorem dX6_openGrade_64 : decode cX6_openGrade 64 = .ok (.aconst_null, 1) := by decide +kernel
theorem dX6_openGrade_65 : decode cX6_openGrade 65 = .ok (.areturn, 1) := by decide +kernel
theorem dX6_readItem_0 : decode cX6_readItem 0 = .ok (.aload_n 0, 1) := by decide +kernel
theorem dX6_readItem_1 : decode cX6_readItem 1 = .ok (.aload_n 1, 1) := by decide +kernel
theorem dX6_readItem_2 : decode cX6_readItem 2 = .ok (.invokevirtual 78, 3) := by decide +kernel
theorem dX6_readItem_5 : decode cX6_readItem 5 = .ok (.ifCond .eq 8, 3) := by decide +kernel
theorem dX6_readItem_8 : decode cX6_readItem 8 = .ok (.aload_n 0, 1) := by decide +kernel
theorem dX6_readItem_9 : decode cX6_readItem 9 = .ok (.invokevirtual 55, 3) := by decide +kernel
theorem dX6_readItem_12 : decode cX6_readItem 12 = .ok (.return_, 1) := by decide +kernel
theorem dX6_readItem_13 : decode cX6_readItem 13 = .ok (.aload_n 0, 1) := by decide +kernel
theorem dX6_readItem_14 : decode cX6_readItem 14 = .ok (.getfield 12, 3) := by decide +kernel
theorem dX6_readItem_17 : decode cX6_readItem 17 = .ok (.getfield 41, 3) := by decide +kernel
theorem dX6_readItem_20 : decode cX6_readItem 20 = .ok (.istore_n 2, 1) := by decide +kernel
theorem dX6_readItem_21 : decode cX6_readItem 21 = .ok (.aload_n 0, 1) := by decide +kernel
theorem dX6_readItem_22 : decode cX6_readItem 22 = .ok (.getfield 12, 3) := by decide +kernel
theorem dX6_readItem_25 : decode cX6_readItem 25 = .ok (.invokevirtual 48, 3) := by decide +kernel
theorem dX6_readItem_28 : decode cX6_readItem 28 = .ok (.iload_n 2, 1) := by decide +kernel
theorem dX6_readItem_29 : decode cX6_readItem 29 = .ok (.tableswitch 57 201 203 #[27, 35, 43], 27) := by decide +kernel
theorem dX6_readItem_56 : decode cX6_readItem 56 = .ok (.aload_n 0, 1) := by decide +kernel
theorem dX6_readItem_57 : decode cX6_readItem 57 = .ok (.aload_n 1, 1) := by decide +kernel
theorem dX6_readItem_58 : decode cX6_readItem 58 = .ok (.invokevirtual 82, 3) := by decide +kernel
theorem dX6_readItem_61 : decode cX6_readItem 61 = .ok (.goto 69, 3) := by decide +kernel
