theorem dX9_isLetterOrDigit_25 : decode cX9_isLetterOrDigit 25 = .ok (.goto 4, 3) := by decide +kernel
theorem dX9_isLetterOrDigit_28 : decode cX9_isLetterOrDigit 28 = .ok (.iconst 0, 1) := by decide +kernel
theorem dX9_isLetterOrDigit_29 : decode cX9_isLetterOrDigit 29 = .ok (.ireturn, 1) := by decide +kernel
theorem dX9_isSign_0 : decode cX9_isSign 0 = .ok (.iload_n 0, 1) := by decide +kernel
theorem dX9_isSign_1 : decode cX9_isSign 1 = .ok (.bipush 123, 2) := by decide +kernel
theorem dX9_isSign_3 : decode cX9_isSign 3 = .ok (.if_icmp .eq 63, 3) := by decide +kernel
theorem dX9_isSign_6 : decode cX9_isSign 6 = .ok (.iload_n 0, 1) := by decide +kernel
theorem dX9_isSign_7 : decode cX9_isSign 7 = .ok (.bipush 125, 2) := by decide +kernel
theorem dX9_isSign_9 : decode cX9_isSign 9 = .ok (.if_icmp .eq 57, 3) := by decide +kernel
theorem dX9_isSign_12 : decode cX9_isSign 12 = .ok (.iload_n 0, 1) := by decide +kernel
theorem dX9_isSign_13 : decode cX9_isSign 13 = .ok (.bipush 40, 2) := by decide +kernel
theorem dX9_isSign_15 : decode cX9_isSign 15 = .ok (.if_icmp .eq 51, 3) := by decide +kernel
theorem dX9_isSign_18 : decode cX9_isSign 18 = .ok (.iload_n 0, 1) := by decide +kernel
theorem dX9_isSign_19 : decode cX9_isSign 19 = .ok (.bipush 41, 2) := by decide +kernel
theorem dX9_isSign_21 : decode cX9_isSign 21 = .ok (.if_icmp .eq 45, 3) := by decide +kernel
theorem dX9_isSign_24 : decode cX9_isSign 24 = .ok (.iload_n 0, 1) := by decide +kernel
theorem dX9_isSign_25 : decode cX9_isSign 25 = .ok (.bipush 61, 2) := by decide +kernel
theorem dX9_isSign_27 : decode cX9_isSign 27 = .ok (.if_icmp .eq 39, 3) := by decide +kernel
theorem dX9_isSign_30 : decode cX9_isSign 30 = .ok (.iload_n 0, 1) := by decide +kernel
theorem dX9_isSign_31 : decode cX9_isSign 31 = .ok (.bipush 44, 2) := by decide +kernel
theorem dX9_isSign_33 : decode cX9_isSign 33 = .ok (.if_icmp .eq 33, 3) := by decide +kernel
theorem dX9_isSign_36 : decode cX9_isSign 36 = .ok (.iload_n 0, 1) := by decide +kernel
theorem dX9_isSign_37 : decode cX9_isSign 37 = .ok (.bipush 59, 2) := by decide +kernel
theorem dX9_isSign_39 : decode cX9_isSign 39 = .ok (.if_icmp .eq 27, 3) := by decide +kernel
theorem dX9_isSign_42 : decode cX9_isSign 42 = .ok (.iload_n 0, 1) := by decide +kernel
theorem dX9_isSign_43 : decode cX9_isSign 43 = .ok (.bipush 60, 2) := by decide +kernel
theorem dX9_isSign_45 : decode cX9_isSign 45 = .ok (.if_icmp .eq 21, 3) := by decide +kernel
theorem dX9_isSign_48 : decode cX9_isSign 48 = .ok (.iload_n 0, 1) := by decide +kernel
theorem dX9_isSign_49 : decode cX9_isSign 49 = .ok (.bipush 62, 2) := by decide +kernel
theorem dX9_isSign_51 : decode cX9_isSign 51 = .ok (.if_icmp .eq 15, 3) := by decide +kernel
theorem dX9_isSign_54 : decode cX9_isSign 54 = .ok (.iload_n 0, 1) := by decide +kernel
theorem dX9_isSign_55 : decode cX9_isSign 55 = .ok (.bipush 43, 2) := by decide +kernel
theorem dX9_isSign_57 : decode cX9_isSign 57 = .ok (.if_icmp .eq 9, 3) := by decide +kernel
theorem dX9_isSign_60 : decode cX9_isSign 60 = .ok (.iload_n 0, 1) := by decide +kernel
theorem dX9_isSign_61 : decode cX9_isSign 61 = .ok (.bipush 45, 2) := by decide +kernel
theorem dX9_isSign_63 : decode cX9_isSign 63 = .ok (.if_icmp .ne 7, 3) := by decide +kernel
theorem dX9_isSign_66 : decode cX9_isSign 66 = .ok (.iconst 1, 1) := by decide +kernel
theorem dX9_isSign_67 : decode cX9_isSign 67 = .ok (.goto 4, 3) := by decide +kernel
theorem dX9_isSign_70 : decode cX9_isSign 70 = .ok (.iconst 0, 1) := by decide +kernel
theorem dX9_isSign_71 : decode cX9_isSign 71 = .ok (.ireturn, 1) := by decide +kernel
theorem dX10_init_0 : decode cX10_init 0 = .ok (.aload_n 0, 1) := by decide +kernel
theorem dX10_init_1 : decode cX10_init 1 = .ok (.invokespecial 3, 3) := by decide +kernel
theorem dX10_init_4 : decode cX10_init 4 = .ok (.aload_n 0, 1) := by decide +kernel
theorem dX10_init_5 : decode cX10_init 5 = .ok (.new 9, 3) := by decide +kernel
theorem dX10_init_8 : decode cX10_init 8 = .ok (.dup, 1) := by decide +kernel
theorem dX10_init_9 : decode cX10_init 9 = .ok (.invokespecial 11, 3) := by decide +kernel
theorem dX10_init_12 : decode cX10_init 12 = .ok (.putfield 12, 3) := by decide +kernel
theorem dX10_init_15 : decode cX10_init 15 = .ok (.aload_n 0, 1) := by decide +kernel
theorem dX10_init_16 : decode cX10_init 16 = .ok (.iconst 4, 1) := by decide +kernel
theorem dX10_init_17 : decode cX10_init 17 = .ok (.anewarray 16, 3) := by decide +kernel
theorem dX10_init_20 : decode cX10_init 20 = .ok (.putfield 18, 3) := by decide +kernel
theorem dX10_init_23 : decode cX10_init 23 = .ok (.aload_n 0, 1) := by decide +kernel
theorem dX10_init_24 : decode cX10_init 24 = .ok (.new 22, 3) := by decide +kernel
theorem dX10_init_27 : decode cX10_init 27 = .ok (.dup, 1) := by decide +kernel
theorem dX10_init_28 : decode cX10_init 28 = .ok (.invokespecial 24, 3) := by decide +kernel
theorem dX10_init_31 : decode cX10_init 31 = .ok (.putfield 25, 3) := by decide +kernel
theorem dX10_init_34 : decode cX10_init 34 = .ok (.aload_n 0, 1) := by decide +kernel
theorem dX10_init_35 : decode cX10_init 35 = .ok (.new 29, 3) := by decide +kernel
theorem dX10_init_38 : decode cX10_init 38 = .ok (.dup, 1) := by decide +kernel
theorem dX10_init_39 : decode cX10_init 39 = .ok (.invokespecial 31, 3) := by decide +kernel
theorem dX10_init_42 : decode cX10_init 42 = .ok (.putfield 32, 3) := by decide +kernel
theorem dX10_init_45 : decode cX10_init 45 = .ok (.aload_n 0, 1) := by decide +kernel
theorem dX10_init_46 : decode cX10_init 46 = .ok (.new 36, 3) := by decide +kernel
theorem dX10_init_49 : decode cX10_init 49 = .ok (.dup, 1) := by decide +kernel
theorem dX10_init_50 : decode cX10_init 50 = .ok (.invokespecial 38, 3) := by decide +kernel
theorem dX10_init_53 : decode cX10_init 53 = .ok (.putfield 39, 3) := by decide +kernel
theorem dX10_init_56 : decode cX10_init 56 = .ok (.aload_n 0, 1) := by decide +kernel
theorem dX10_init_57 : decode cX10_init 57 = .ok (.new 43, 3) := by decide +kernel
theorem dX10_init_60 : decode cX10_init 60 = .ok (.dup, 1) := by decide +kernel
theorem dX10_init_61 : decode cX10_init 61 = .ok (.invokespecial 45, 3) := by decide +kernel
theorem dX10_init_64 : decode cX10_init 64 = .ok (.putfield 46, 3) := by decide +kernel
theorem dX10_init_67 : decode cX10_init 67 = .ok (.aload_n 0, 1) := by decide +kernel
theorem dX10_init_68 : decode cX10_init 68 = .ok (.new 50, 3) := by decide +kernel
theorem dX10_init_71 : decode cX10_init 71 = .ok (.dup, 1) := by decide +kernel
theorem dX10_init_72 : decode cX10_init 72 = .ok (.invokespecial 52, 3) := by decide +kernel
theorem dX10_init_75 : decode cX10_init 75 = .ok (.putfield 53, 3) := by decide +kernel
theorem dX10_init_78 : decode cX10_init 78 = .ok (.aload_n 0, 1) := by decide +kernel
theorem dX10_init_79 : decode cX10_init 79 = .ok (.new 57, 3) := by decide +kernel
theorem dX10_init_82 : decode cX10_init 82 = .ok (.dup, 1) := by decide +kernel
theorem dX10_init_83 : decode cX10_init 83 = .ok (.invokespecial 59, 3) := by decide +kernel
theorem dX10_init_86 : decode cX10_init 86 = .ok (.putfield 60, 3) := by decide +kernel
theorem dX10_init_89 : decode cX10_init 89 = .ok (.return_, 1) := by decide +kernel
theorem dX10_feed_0 : decode cX10_feed 0 = .ok (.aload_n 0, 1) := by decide +kernel
theorem dX10_feed_1 : decode cX10_feed 1 = .ok (.getfield 12, 3) := by decide +kernel
theorem dX10_feed_4 : decode cX10_feed 4 = .ok (.getfield 64, 3) := by decide +kernel
theorem dX10_feed_7 : decode cX10_feed 7 = .ok (.astore 6, 2) := by decide +kernel
theorem dX10_feed_9 : decode cX10_feed 9 = .ok (.aload 6, 2) := by decide +kernel
theorem dX10_feed_11 : decode cX10_feed 11 = .ok (.getfield 68, 3) := by decide +kernel
theorem dX10_feed_14 : decode cX10_feed 14 = .ok (.bipush 20, 2) := by decide +kernel
theorem dX10_feed_16 : decode cX10_feed 16 = .ok (.iadd, 1) := by decide +kernel
theorem dX10_feed_17 : decode cX10_feed 17 = .ok (.sipush 1400, 3) := by decide +kernel
theorem dX10_feed_20 : decode cX10_feed 20 = .ok (.if_icmp .le 5, 3) := by decide +kernel
theorem dX10_feed_23 : decode cX10_feed 23 = .ok (.iconst (-1), 1) := by decide +kernel
theorem dX10_feed_24 : decode cX10_feed 24 = .ok (.ireturn, 1) := by decide +kernel
theorem dX10_feed_25 : decode cX10_feed 25 = .ok (.aload 6, 2) := by decide +kernel
theorem dX10_feed_27 : decode cX10_feed 27 = .ok (.iload_n 1, 1) := by decide +kernel
theorem dX10_feed_28 : decode cX10_feed 28 = .ok (.invokevirtual 74, 3) := by decide +kernel
theorem dX10_feed_31 : decode cX10_feed 31 = .ok (.aload 6, 2) := by decide +kernel
theorem dX10_feed_33 : decode cX10_feed 33 = .ok (.iload_n 2, 1) := by decide +kernel
theorem dX10_feed_34 : decode cX10_feed 34 = .ok (.invokevirtual 74, 3) := by decide +kernel
theorem dX10_feed_37 : decode cX10_feed 37 = .ok (.aload 6, 2) := by decide +kernel
theorem dX10_feed_39 : decode cX10_feed 39 = .ok (.iload_n 3, 1) := by decide +kernel
theorem dX10_feed_40 : decode cX10_feed 40 = .ok (.invokevirtual 74, 3) := by decide +kernel
theorem dX10_feed_43 : decode cX10_feed 43 = .ok (.aload 6, 2) := by decide +kernel
theorem dX10_feed_45 : decode cX10_feed 45 = .ok (.iload 4, 2) := by decide +kernel
theorem dX10_feed_47 : decode cX10_feed 47 = .ok (.invokevirtual 74, 3) := by decide +kernel
theorem dX10_feed_50 : decode cX10_feed 50 = .ok (.aload 6, 2) := by decide +kernel
theorem dX10_feed_52 : decode cX10_feed 52 = .ok (.iload 5, 2) := by decide +kernel
theorem dX10_feed_54 : decode cX10_feed 54 = .ok (.invokevirtual 74, 3) := by decide +kernel
theorem dX10_feed_57 : decode cX10_feed 57 = .ok (.aload 6, 2) := by decide +kernel
theorem dX10_feed_59 : decode cX10_feed 59 = .ok (.getfield 68, 3) := by decide +kernel
theorem dX10_feed_62 : decode cX10_feed 62 = .ok (.ireturn, 1) := by decide +kernel
theorem dX10_end_0 : decode cX10_end 0 = .ok (.iload_n 1, 1) := by decide +kernel
theorem dX10_end_1 : decode cX10_end 1 = .ok (.ifCond .lt 17, 3) := by decide +kernel
theorem dX10_end_4 : decode cX10_end 4 = .ok (.iload_n 1, 1) := by decide +kernel
theorem dX10_end_5 : decode cX10_end 5 = .ok (.aload_n 0, 1) := by decide +kernel
theorem dX10_end_6 : decode cX10_end 6 = .ok (.getfield 12, 3) := by decide +kernel
theorem dX10_end_9 : decode cX10_end 9 = .ok (.getfield 64, 3) := by decide +kernel
theorem dX10_end_12 : decode cX10_end 12 = .ok (.getfield 68, 3) := by decide +kernel
theorem dX10_end_15 : decode cX10_end 15 = .ok (.if_icmp .le 5, 3) := by decide +kernel
theorem dX10_end_18 : decode cX10_end 18 = .ok (.iconst (-1), 1) := by decide +kernel
theorem dX10_end_19 : decode cX10_end 19 = .ok (.ireturn, 1) := by decide +kernel
theorem dX10_end_20 : decode cX10_end 20 = .ok (.aload_n 0, 1) := by decide +kernel
theorem dX10_end_21 : decode cX10_end 21 = .ok (.getfield 12, 3) := by decide +kernel
theorem dX10_end_24 : decode cX10_end 24 = .ok (.getfield 64, 3) := by decide +kernel
theorem dX10_end_27 : decode cX10_end 27 = .ok (.iload_n 1, 1) := by decide +kernel
theorem dX10_end_28 : decode cX10_end 28 = .ok (.putfield 68, 3) := by decide +kernel
theorem dX10_end_31 : decode cX10_end 31 = .ok (.iload_n 1, 1) := by decide +kernel
theorem dX10_end_32 : decode cX10_end 32 = .ok (.ireturn, 1) := by decide +kernel
theorem dX10_syllabus_0 : decode cX10_syllabus 0 = .ok (.iload_n 1, 1) := by decide +kernel
theorem dX10_syllabus_1 : decode cX10_syllabus 1 = .ok (.invokestatic 78, 3) := by decide +kernel
theorem dX10_syllabus_4 : decode cX10_syllabus 4 = .ok (.ifCond .ne 6, 3) := by decide +kernel
theorem dX10_syllabus_7 : decode cX10_syllabus 7 = .ok (.bipush (-2), 2) := by decide +kernel
theorem dX10_syllabus_9 : decode cX10_syllabus 9 = .ok (.ireturn, 1) := by decide +kernel
theorem dX10_syllabus_10 : decode cX10_syllabus 10 = .ok (.aload_n 0, 1) := by decide +kernel
theorem dX10_syllabus_11 : decode cX10_syllabus 11 = .ok (.getfield 12, 3) := by decide +kernel
theorem dX10_syllabus_14 : decode cX10_syllabus 14 = .ok (.invokevirtual 82, 3) := by decide +kernel
theorem dX10_syllabus_17 : decode cX10_syllabus 17 = .ok (.aload_n 0, 1) := by decide +kernel
theorem dX10_syllabus_18 : decode cX10_syllabus 18 = .ok (.getfield 12, 3) := by decide +kernel
theorem dX10_syllabus_21 : decode cX10_syllabus 21 = .ok (.getfield 64, 3) := by decide +kernel
theorem dX10_syllabus_24 : decode cX10_syllabus 24 = .ok (.iconst 0, 1) := by decide +kernel
theorem dX10_syllabus_25 : decode cX10_syllabus 25 = .ok (.putfield 68, 3) := by decide +kernel
theorem dX10_syllabus_28 : decode cX10_syllabus 28 = .ok (.aload_n 0, 1) := by decide +kernel
theorem dX10_syllabus_29 : decode cX10_syllabus 29 = .ok (.getfield 12, 3) := by decide +kernel
theorem dX10_syllabus_32 : decode cX10_syllabus 32 = .ok (.getfield 85, 3) := by decide +kernel
theorem dX10_syllabus_35 : decode cX10_syllabus 35 = .ok (.ifCond .eq 5, 3) := by decide +kernel
theorem dX10_syllabus_38 : decode cX10_syllabus 38 = .ok (.iconst (-1), 1) := by decide +kernel
theorem dX10_syllabus_39 : decode cX10_syllabus 39 = .ok (.ireturn, 1) := by decide +kernel
theorem dX10_syllabus_40 : decode cX10_syllabus 40 = .ok (.aload_n 0, 1) := by decide +kernel
theorem dX10_syllabus_41 : decode cX10_syllabus 41 = .ok (.getfield 18, 3) := by decide +kernel
theorem dX10_syllabus_44 : decode cX10_syllabus 44 = .ok (.iload_n 1, 1) := by decide +kernel
theorem dX10_syllabus_45 : decode cX10_syllabus 45 = .ok (.aload_n 0, 1) := by decide +kernel
theorem dX10_syllabus_46 : decode cX10_syllabus 46 = .ok (.getfield 12, 3) := by decide +kernel
theorem dX10_syllabus_49 : decode cX10_syllabus 49 = .ok (.aload_n 0, 1) := by decide +kernel
theorem dX10_syllabus_50 : decode cX10_syllabus 50 = .ok (.getfield 18, 3) := by decide +kernel
theorem dX10_syllabus_53 : decode cX10_syllabus 53 = .ok (.iload_n 1, 1) := by decide +kernel
theorem dX10_syllabus_54 : decode cX10_syllabus 54 = .ok (.aaload, 1) := by decide +kernel
theorem dX10_syllabus_55 : decode cX10_syllabus 55 = .ok (.invokevirtual 88, 3) := by decide +kernel
theorem dX10_syllabus_58 : decode cX10_syllabus 58 = .ok (.aastore, 1) := by decide +kernel
theorem dX10_syllabus_59 : decode cX10_syllabus 59 = .ok (.aload_n 0, 1) := by decide +kernel
theorem dX10_syllabus_60 : decode cX10_syllabus 60 = .ok (.iload_n 1, 1) := by decide +kernel
theorem dX10_syllabus_61 : decode cX10_syllabus 61 = .ok (.invokevirtual 92, 3) := by decide +kernel
theorem dX10_syllabus_64 : decode cX10_syllabus 64 = .ok (.ireturn, 1) := by decide +kernel
theorem dX10_fault_0 : decode cX10_fault 0 = .ok (.iload_n 1, 1) := by decide +kernel
theorem dX10_fault_1 : decode cX10_fault 1 = .ok (.ifCond .ne 11, 3) := by decide +kernel
theorem dX10_fault_4 : decode cX10_fault 4 = .ok (.aload_n 0, 1) := by decide +kernel
theorem dX10_fault_5 : decode cX10_fault 5 = .ok (.getfield 12, 3) := by decide +kernel
theorem dX10_fault_8 : decode cX10_fault 8 = .ok (.getfield 85, 3) := by decide +kernel
theorem dX10_fault_11 : decode cX10_fault 11 = .ok (.ireturn, 1) := by decide +kernel
theorem dX10_fault_12 : decode cX10_fault 12 = .ok (.iload_n 1, 1) := by decide +kernel
theorem dX10_fault_13 : decode cX10_fault 13 = .ok (.iconst 1, 1) := by decide +kernel
theorem dX10_fault_14 : decode cX10_fault 14 = .ok (.if_icmp .ne 13, 3) := by decide +kernel
theorem dX10_fault_17 : decode cX10_fault 17 = .ok (.aload_n 0, 1) := by decide +kernel
theorem dX10_fault_18 : decode cX10_fault 18 = .ok (.getfield 12, 3) := by decide +kernel
theorem dX10_fault_21 : decode cX10_fault 21 = .ok (.getfield 96, 3) := by decide +kernel
theorem dX10_fault_24 : decode cX10_fault 24 = .ok (.goto 4, 3) := by decide +kernel
theorem dX10_fault_27 : decode cX10_fault 27 = .ok (.iconst (-1), 1) := by decide +kernel
theorem dX10_fault_28 : decode cX10_fault 28 = .ok (.ireturn, 1) := by decide +kernel
theorem dX10_grade_0 : decode cX10_grade 0 = .ok (.aload_n 0, 1) := by decide +kernel
theorem dX10_grade_1 : decode cX10_grade 1 = .ok (.iload_n 1, 1) := by decide +kernel
theorem dX10_grade_2 : decode cX10_grade 2 = .ok (.iload_n 2, 1) := by decide +kernel
theorem dX10_grade_3 : decode cX10_grade 3 = .ok (.invokevirtual 99, 3) := by decide +kernel
theorem dX10_grade_6 : decode cX10_grade 6 = .ok (.astore 4, 2) := by decide +kernel
theorem dX10_grade_8 : decode cX10_grade 8 = .ok (.aload 4, 2) := by decide +kernel
theorem dX10_grade_10 : decode cX10_grade 10 = .ok (.ifnonnull 5, 3) := by decide +kernel
theorem dX10_grade_13 : decode cX10_grade 13 = .ok (.iconst (-1), 1) := by decide +kernel
theorem dX10_grade_14 : decode cX10_grade 14 = .ok (.ireturn, 1) := by decide +kernel
theorem dX10_grade_15 : decode cX10_grade 15 = .ok (.iload_n 3, 1) := by decide +kernel
theorem dX10_grade_16 : decode cX10_grade 16 = .ok (.bipush 10, 2) := by decide +kernel
theorem dX10_grade_18 : decode cX10_grade 18 = .ok (.if_icmp .lt 26, 3) := by decide +kernel
theorem dX10_grade_21 : decode cX10_grade 21 = .ok (.iload_n 3, 1) := by decide +kernel
theorem dX10_grade_22 : decode cX10_grade 22 = .ok (.bipush 10, 2) := by decide +kernel
theorem dX10_grade_24 : decode cX10_grade 24 = .ok (.aload 4, 2) := by decide +kernel
theorem dX10_grade_26 : decode cX10_grade 26 = .ok (.getfield 103, 3) := by decide +kernel
theorem dX10_grade_29 : decode cX10_grade 29 = .ok (.iadd, 1) := by decide +kernel
theorem dX10_grade_30 : decode cX10_grade 30 = .ok (.if_icmp .ge 14, 3) := by decide +kernel
theorem dX10_grade_33 : decode cX10_grade 33 = .ok (.aload 4, 2) := by decide +kernel
theorem dX10_grade_35 : decode cX10_grade 35 = .ok (.getfield 108, 3) := by decide +kernel
theorem dX10_grade_38 : decode cX10_grade 38 = .ok (.iload_n 3, 1) := by decide +kernel
theorem dX10_grade_39 : decode cX10_grade 39 = .ok (.bipush 10, 2) := by decide +kernel
theorem dX10_grade_41 : decode cX10_grade 41 = .ok (.isub, 1) := by decide +kernel
theorem dX10_grade_42 : decode cX10_grade 42 = .ok (.iaload, 1) := by decide +kernel
theorem dX10_grade_43 : decode cX10_grade 43 = .ok (.ireturn, 1) := by decide +kernel
theorem dX10_grade_44 : decode cX10_grade 44 = .ok (.iload_n 3, 1) := by decide +kernel
theorem dX10_grade_45 : decode cX10_grade 45 = .ok (.tableswitch 55 0 3 #[31, 37, 43, 49], 31) := by decide +kernel
theorem dX10_grade_76 : decode cX10_grade 76 = .ok (.aload 4, 2) := by decide +kernel
theorem dX10_grade_78 : decode cX10_grade 78 = .ok (.getfield 112, 3) := by decide +kernel
theorem dX10_grade_81 : decode cX10_grade 81 = .ok (.ireturn, 1) := by decide +kernel
theorem dX10_grade_82 : decode cX10_grade 82 = .ok (.aload 4, 2) := by decide +kernel
theorem dX10_grade_84 : decode cX10_grade 84 = .ok (.getfield 103, 3) := by decide +kernel
theorem dX10_grade_87 : decode cX10_grade 87 = .ok (.ireturn, 1) := by decide +kernel
theorem dX10_grade_88 : decode cX10_grade 88 = .ok (.aload 4, 2) := by decide +kernel
theorem dX10_grade_90 : decode cX10_grade 90 = .ok (.getfield 115, 3) := by decide +kernel
theorem dX10_grade_93 : decode cX10_grade 93 = .ok (.ireturn, 1) := by decide +kernel
theorem dX10_grade_94 : decode cX10_grade 94 = .ok (.aload 4, 2) := by decide +kernel
theorem dX10_grade_96 : decode cX10_grade 96 = .ok (.invokevirtual 118, 3) := by decide +kernel
theorem dX10_grade_99 : decode cX10_grade 99 = .ok (.ireturn, 1) := by decide +kernel
theorem dX10_grade_100 : decode cX10_grade 100 = .ok (.iconst (-1), 1) := by decide +kernel
theorem dX10_grade_101 : decode cX10_grade 101 = .ok (.ireturn, 1) := by decide +kernel
theorem dX10_entry_0 : decode cX10_entry 0 = .ok (.iload_n 1, 1) := by decide +kernel
theorem dX10_entry_1 : decode cX10_entry 1 = .ok (.iconst 0, 1) := by decide +kernel
theorem dX10_entry_2 : decode cX10_entry 2 = .ok (.bipush 99, 2) := by decide +kernel
theorem dX10_entry_4 : decode cX10_entry 4 = .ok (.invokestatic 122, 3) := by decide +kernel
theorem dX10_entry_7 : decode cX10_entry 7 = .ok (.ifCond .eq 64, 3) := by decide +kernel
theorem dX10_entry_10 : decode cX10_entry 10 = .ok (.iload_n 2, 1) := by decide +kernel
theorem dX10_entry_11 : decode cX10_entry 11 = .ok (.invokestatic 78, 3) := by decide +kernel
theorem dX10_entry_14 : decode cX10_entry 14 = .ok (.ifCond .eq 57, 3) := by decide +kernel
theorem dX10_entry_17 : decode cX10_entry 17 = .ok (.iload_n 3, 1) := by decide +kernel
theorem dX10_entry_18 : decode cX10_entry 18 = .ok (.iconst 1, 1) := by decide +kernel
theorem dX10_entry_19 : decode cX10_entry 19 = .ok (.bipush 8, 2) := by decide +kernel
theorem dX10_entry_21 : decode cX10_entry 21 = .ok (.invokestatic 122, 3) := by decide +kernel
theorem dX10_entry_24 : decode cX10_entry 24 = .ok (.ifCond .eq 47, 3) := by decide +kernel
theorem dX10_entry_27 : decode cX10_entry 27 = .ok (.iload 4, 2) := by decide +kernel
theorem dX10_entry_29 : decode cX10_entry 29 = .ok (.iconst 0, 1) := by decide +kernel
theorem dX10_entry_30 : decode cX10_entry 30 = .ok (.bipush 7, 2) := by decide +kernel
theorem dX10_entry_32 : decode cX10_entry 32 = .ok (.invokestatic 122, 3) := by decide +kernel
theorem dX10_entry_35 : decode cX10_entry 35 = .ok (.ifCond .eq 36, 3) := by decide +kernel
theorem dX10_entry_38 : decode cX10_entry 38 = .ok (.iload 5, 2) := by decide +kernel
theorem dX10_entry_40 : decode cX10_entry 40 = .ok (.iconst 4, 1) := by decide +kernel
theorem dX10_entry_41 : decode cX10_entry 41 = .ok (.bipush 99, 2) := by decide +kernel
theorem dX10_entry_43 : decode cX10_entry 43 = .ok (.invokestatic 122, 3) := by decide +kernel
theorem dX10_entry_46 : decode cX10_entry 46 = .ok (.ifCond .eq 25, 3) := by decide +kernel
theorem dX10_entry_49 : decode cX10_entry 49 = .ok (.iload 6, 2) := by decide +kernel
theorem dX10_entry_51 : decode cX10_entry 51 = .ok (.iconst (-1), 1) := by decide +kernel
theorem dX10_entry_52 : decode cX10_entry 52 = .ok (.if_icmp .eq 15, 3) := by decide +kernel
theorem dX10_entry_55 : decode cX10_entry 55 = .ok (.aload_n 0, 1) := by decide +kernel
theorem dX10_entry_56 : decode cX10_entry 56 = .ok (.getfield 39, 3) := by decide +kernel
theorem dX10_entry_59 : decode cX10_entry 59 = .ok (.iload 6, 2) := by decide +kernel
theorem dX10_entry_61 : decode cX10_entry 61 = .ok (.invokevirtual 126, 3) := by decide +kernel
theorem dX10_entry_64 : decode cX10_entry 64 = .ok (.ifCond .eq 7, 3) := by decide +kernel
theorem dX10_entry_67 : decode cX10_entry 67 = .ok (.iconst 1, 1) := by decide +kernel
theorem dX10_entry_68 : decode cX10_entry 68 = .ok (.goto 4, 3) := by decide +kernel
theorem dX10_entry_71 : decode cX10_entry 71 = .ok (.iconst 0, 1) := by decide +kernel
theorem dX10_entry_72 : decode cX10_entry 72 = .ok (.istore 7, 2) := by decide +kernel
theorem dX10_entry_74 : decode cX10_entry 74 = .ok (.iload 7, 2) := by decide +kernel
theorem dX10_entry_76 : decode cX10_entry 76 = .ok (.ifCond .eq 22, 3) := by decide +kernel
theorem dX10_entry_79 : decode cX10_entry 79 = .ok (.aload_n 0, 1) := by decide +kernel
theorem dX10_entry_80 : decode cX10_entry 80 = .ok (.getfield 32, 3) := by decide +kernel
theorem dX10_entry_83 : decode cX10_entry 83 = .ok (.iload_n 1, 1) := by decide +kernel
theorem dX10_entry_84 : decode cX10_entry 84 = .ok (.iload_n 2, 1) := by decide +kernel
theorem dX10_entry_85 : decode cX10_entry 85 = .ok (.iload_n 3, 1) := by decide +kernel
theorem dX10_entry_86 : decode cX10_entry 86 = .ok (.iload 4, 2) := by decide +kernel
theorem dX10_entry_88 : decode cX10_entry 88 = .ok (.iload 5, 2) := by decide +kernel
theorem dX10_entry_90 : decode cX10_entry 90 = .ok (.iload 6, 2) := by decide +kernel
theorem dX10_entry_92 : decode cX10_entry 92 = .ok (.invokevirtual 129, 3) := by decide +kernel
theorem dX10_entry_95 : decode cX10_entry 95 = .ok (.goto 4, 3) := by decide +kernel
theorem dX10_entry_98 : decode cX10_entry 98 = .ok (.iconst (-1), 1) := by decide +kernel
theorem dX10_entry_99 : decode cX10_entry 99 = .ok (.ireturn, 1) := by decide +kernel
theorem dX10_piece_0 : decode cX10_piece 0 = .ok (.aload_n 0, 1) := by decide +kernel
theorem dX10_piece_1 : decode cX10_piece 1 = .ok (.getfield 32, 3) := by decide +kernel
theorem dX10_piece_4 : decode cX10_piece 4 = .ok (.iload_n 1, 1) := by decide +kernel
theorem dX10_piece_5 : decode cX10_piece 5 = .ok (.invokevirtual 133, 3) := by decide +kernel
theorem dX10_piece_8 : decode cX10_piece 8 = .ok (.ifCond .eq 22, 3) := by decide +kernel
theorem dX10_piece_11 : decode cX10_piece 11 = .ok (.lload_n 2, 1) := by decide +kernel
theorem dX10_piece_12 : decode cX10_piece 12 = .ok (.invokestatic 136, 3) := by decide +kernel
theorem dX10_piece_15 : decode cX10_piece 15 = .ok (.ifCond .eq 15, 3) := by decide +kernel
theorem dX10_piece_18 : decode cX10_piece 18 = .ok (.aload_n 0, 1) := by decide +kernel
theorem dX10_piece_19 : decode cX10_piece 19 = .ok (.getfield 32, 3) := by decide +kernel
theorem dX10_piece_22 : decode cX10_piece 22 = .ok (.iload_n 1, 1) := by decide +kernel
theorem dX10_piece_23 : decode cX10_piece 23 = .ok (.lload_n 2, 1) := by decide +kernel
theorem dX10_piece_24 : decode cX10_piece 24 = .ok (.invokevirtual 140, 3) := by decide +kernel
theorem dX10_piece_27 : decode cX10_piece 27 = .ok (.goto 4, 3) := by decide +kernel
theorem dX10_piece_30 : decode cX10_piece 30 = .ok (.iconst (-1), 1) := by decide +kernel
theorem dX10_piece_31 : decode cX10_piece 31 = .ok (.ireturn, 1) := by decide +kernel
theorem dX10_judge_0 : decode cX10_judge 0 = .ok (.aload_n 0, 1) := by decide +kernel
theorem dX10_judge_1 : decode cX10_judge 1 = .ok (.getfield 32, 3) := by decide +kernel
theorem dX10_judge_4 : decode cX10_judge 4 = .ok (.iload_n 1, 1) := by decide +kernel
theorem dX10_judge_5 : decode cX10_judge 5 = .ok (.invokevirtual 133, 3) := by decide +kernel
theorem dX10_judge_8 : decode cX10_judge 8 = .ok (.ifCond .eq 11, 3) := by decide +kernel
theorem dX10_judge_11 : decode cX10_judge 11 = .ok (.aload_n 0, 1) := by decide +kernel
theorem dX10_judge_12 : decode cX10_judge 12 = .ok (.iload_n 1, 1) := by decide +kernel
theorem dX10_judge_13 : decode cX10_judge 13 = .ok (.invokevirtual 144, 3) := by decide +kernel
theorem dX10_judge_16 : decode cX10_judge 16 = .ok (.goto 5, 3) := by decide +kernel
theorem dX10_judge_19 : decode cX10_judge 19 = .ok (.bipush (-3), 2) := by decide +kernel
theorem dX10_judge_21 : decode cX10_judge 21 = .ok (.ireturn, 1) := by decide +kernel
theorem dX10_centre_0 : decode cX10_centre 0 = .ok (.aload_n 0, 1) := by decide +kernel
theorem dX10_centre_1 : decode cX10_centre 1 = .ok (.getfield 39, 3) := by decide +kernel
theorem dX10_centre_4 : decode cX10_centre 4 = .ok (.invokevirtual 147, 3) := by decide +kernel
theorem dX10_centre_7 : decode cX10_centre 7 = .ok (.ireturn, 1) := by decide +kernel
theorem dX10_way_0 : decode cX10_way 0 = .ok (.aload_n 0, 1) := by decide +kernel
theorem dX10_way_1 : decode cX10_way 1 = .ok (.getfield 39, 3) := by decide +kernel
theorem dX10_way_4 : decode cX10_way 4 = .ok (.iload_n 1, 1) := by decide +kernel
theorem dX10_way_5 : decode cX10_way 5 = .ok (.invokevirtual 150, 3) := by decide +kernel
theorem dX10_way_8 : decode cX10_way 8 = .ok (.ifCond .eq 34, 3) := by decide +kernel
theorem dX10_way_11 : decode cX10_way 11 = .ok (.aload_n 0, 1) := by decide +kernel
theorem dX10_way_12 : decode cX10_way 12 = .ok (.getfield 39, 3) := by decide +kernel
theorem dX10_way_15 : decode cX10_way 15 = .ok (.iload_n 2, 1) := by decide +kernel
theorem dX10_way_16 : decode cX10_way 16 = .ok (.invokevirtual 150, 3) := by decide +kernel
theorem dX10_way_19 : decode cX10_way 19 = .ok (.ifCond .eq 23, 3) := by decide +kernel
theorem dX10_way_22 : decode cX10_way 22 = .ok (.iload_n 1, 1) := by decide +kernel
theorem dX10_way_23 : decode cX10_way 23 = .ok (.iload_n 2, 1) := by decide +kernel
theorem dX10_way_24 : decode cX10_way 24 = .ok (.if_icmp .eq 18, 3) := by decide +kernel
theorem dX10_way_27 : decode cX10_way 27 = .ok (.iload_n 3, 1) := by decide +kernel
theorem dX10_way_28 : decode cX10_way 28 = .ok (.iconst 0, 1) := by decide +kernel
theorem dX10_way_29 : decode cX10_way 29 = .ok (.sipush 600, 3) := by decide +kernel
theorem dX10_way_32 : decode cX10_way 32 = .ok (.invokestatic 122, 3) := by decide +kernel
theorem dX10_way_35 : decode cX10_way 35 = .ok (.ifCond .eq 7, 3) := by decide +kernel
theorem dX10_way_38 : decode cX10_way 38 = .ok (.iconst 1, 1) := by decide +kernel
theorem dX10_way_39 : decode cX10_way 39 = .ok (.goto 4, 3) := by decide +kernel
theorem dX10_way_42 : decode cX10_way 42 = .ok (.iconst 0, 1) := by decide +kernel
theorem dX10_way_43 : decode cX10_way 43 = .ok (.istore 4, 2) := by decide +kernel
theorem dX10_way_45 : decode cX10_way 45 = .ok (.iload 4, 2) := by decide +kernel
theorem dX10_way_47 : decode cX10_way 47 = .ok (.ifCond .eq 13, 3) := by decide +kernel
theorem dX10_way_50 : decode cX10_way 50 = .ok (.aload_n 0, 1) := by decide +kernel
theorem dX10_way_51 : decode cX10_way 51 = .ok (.getfield 39, 3) := by decide +kernel
theorem dX10_way_54 : decode cX10_way 54 = .ok (.iload_n 1, 1) := by decide +kernel
theorem dX10_way_55 : decode cX10_way 55 = .ok (.iload_n 2, 1) := by decide +kernel
theorem dX10_way_56 : decode cX10_way 56 = .ok (.iload_n 3, 1) := by decide +kernel
theorem dX10_way_57 : decode cX10_way 57 = .ok (.invokevirtual 153, 3) := by decide +kernel
theorem dX10_way_60 : decode cX10_way 60 = .ok (.iload 4, 2) := by decide +kernel
theorem dX10_way_62 : decode cX10_way 62 = .ok (.ireturn, 1) := by decide +kernel
theorem dX10_examiner_0 : decode cX10_examiner 0 = .ok (.aload_n 0, 1) := by decide +kernel
theorem dX10_examiner_1 : decode cX10_examiner 1 = .ok (.getfield 39, 3) := by decide +kernel
theorem dX10_examiner_4 : decode cX10_examiner 4 = .ok (.iload_n 1, 1) := by decide +kernel
theorem dX10_examiner_5 : decode cX10_examiner 5 = .ok (.invokevirtual 150, 3) := by decide +kernel
theorem dX10_examiner_8 : decode cX10_examiner 8 = .ok (.ifCond .eq 18, 3) := by decide +kernel
theorem dX10_examiner_11 : decode cX10_examiner 11 = .ok (.iload_n 2, 1) := by decide +kernel
theorem dX10_examiner_12 : decode cX10_examiner 12 = .ok (.iconst 0, 1) := by decide +kernel
theorem dX10_examiner_13 : decode cX10_examiner 13 = .ok (.sipush 255, 3) := by decide +kernel
theorem dX10_examiner_16 : decode cX10_examiner 16 = .ok (.invokestatic 122, 3) := by decide +kernel
theorem dX10_examiner_19 : decode cX10_examiner 19 = .ok (.ifCond .eq 7, 3) := by decide +kernel
theorem dX10_examiner_22 : decode cX10_examiner 22 = .ok (.iconst 1, 1) := by decide +kernel
theorem dX10_examiner_23 : decode cX10_examiner 23 = .ok (.goto 4, 3) := by decide +kernel
theorem dX10_examiner_26 : decode cX10_examiner 26 = .ok (.iconst 0, 1) := by decide +kernel
theorem dX10_examiner_27 : decode cX10_examiner 27 = .ok (.istore_n 3, 1) := by decide +kernel
theorem dX10_examiner_28 : decode cX10_examiner 28 = .ok (.iload_n 3, 1) := by decide +kernel
theorem dX10_examiner_29 : decode cX10_examiner 29 = .ok (.ifCond .eq 15, 3) := by decide +kernel
theorem dX10_examiner_32 : decode cX10_examiner 32 = .ok (.aload_n 0, 1) := by decide +kernel
theorem dX10_examiner_33 : decode cX10_examiner 33 = .ok (.getfield 39, 3) := by decide +kernel
theorem dX10_examiner_36 : decode cX10_examiner 36 = .ok (.iload_n 1, 1) := by decide +kernel
theorem dX10_examiner_37 : decode cX10_examiner 37 = .ok (.iload_n 2, 1) := by decide +kernel
theorem dX10_examiner_38 : decode cX10_examiner 38 = .ok (.invokevirtual 157, 3) := by decide +kernel
theorem dX10_examiner_41 : decode cX10_examiner 41 = .ok (.goto 4, 3) := by decide +kernel
theorem dX10_examiner_44 : decode cX10_examiner 44 = .ok (.iconst (-1), 1) := by decide +kernel
theorem dX10_examiner_45 : decode cX10_examiner 45 = .ok (.ireturn, 1) := by decide +kernel
theorem dX10_session_0 : decode cX10_session 0 = .ok (.aload_n 0, 1) := by decide +kernel
theorem dX10_session_1 : decode cX10_session 1 = .ok (.getfield 39, 3) := by decide +kernel
theorem dX10_session_4 : decode cX10_session 4 = .ok (.iload_n 1, 1) := by decide +kernel
theorem dX10_session_5 : decode cX10_session 5 = .ok (.invokevirtual 150, 3) := by decide +kernel
theorem dX10_session_8 : decode cX10_session 8 = .ok (.ifCond .eq 17, 3) := by decide +kernel
theorem dX10_session_11 : decode cX10_session 11 = .ok (.iload_n 2, 1) := by decide +kernel
theorem dX10_session_12 : decode cX10_session 12 = .ok (.iconst 0, 1) := by decide +kernel
theorem dX10_session_13 : decode cX10_session 13 = .ok (.bipush 99, 2) := by decide +kernel
theorem dX10_session_15 : decode cX10_session 15 = .ok (.invokestatic 122, 3) := by decide +kernel
theorem dX10_session_18 : decode cX10_session 18 = .ok (.ifCond .eq 7, 3) := by decide +kernel
theorem dX10_session_21 : decode cX10_session 21 = .ok (.iconst 1, 1) := by decide +kernel
theorem dX10_session_22 : decode cX10_session 22 = .ok (.goto 4, 3) := by decide +kernel
theorem dX10_session_25 : decode cX10_session 25 = .ok (.iconst 0, 1) := by decide +kernel
theorem dX10_session_26 : decode cX10_session 26 = .ok (.istore_n 3, 1) := by decide +kernel
theorem dX10_session_27 : decode cX10_session 27 = .ok (.iload_n 3, 1) := by decide +kernel
theorem dX10_session_28 : decode cX10_session 28 = .ok (.ifCond .eq 15, 3) := by decide +kernel
theorem dX10_session_31 : decode cX10_session 31 = .ok (.aload_n 0, 1) := by decide +kernel
theorem dX10_session_32 : decode cX10_session 32 = .ok (.getfield 39, 3) := by decide +kernel
theorem dX10_session_35 : decode cX10_session 35 = .ok (.iload_n 1, 1) := by decide +kernel
theorem dX10_session_36 : decode cX10_session 36 = .ok (.iload_n 2, 1) := by decide +kernel
theorem dX10_session_37 : decode cX10_session 37 = .ok (.invokevirtual 161, 3) := by decide +kernel
theorem dX10_session_40 : decode cX10_session 40 = .ok (.goto 4, 3) := by decide +kernel
theorem dX10_session_43 : decode cX10_session 43 = .ok (.iconst (-1), 1) := by decide +kernel
theorem dX10_session_44 : decode cX10_session 44 = .ok (.ireturn, 1) := by decide +kernel
theorem dX10_put_0 : decode cX10_put 0 = .ok (.aload_n 0, 1) := by decide +kernel
theorem dX10_put_1 : decode cX10_put 1 = .ok (.getfield 32, 3) := by decide +kernel
theorem dX10_put_4 : decode cX10_put 4 = .ok (.iload_n 1, 1) := by decide +kernel
theorem dX10_put_5 : decode cX10_put 5 = .ok (.invokevirtual 133, 3) := by decide +kernel
theorem dX10_put_8 : decode cX10_put 8 = .ok (.ifCond .eq 19, 3) := by decide +kernel
theorem dX10_put_11 : decode cX10_put 11 = .ok (.iload_n 2, 1) := by decide +kernel
theorem dX10_put_12 : decode cX10_put 12 = .ok (.iconst (-1), 1) := by decide +kernel
theorem dX10_put_13 : decode cX10_put 13 = .ok (.if_icmp .eq 16, 3) := by decide +kernel
theorem dX10_put_16 : decode cX10_put 16 = .ok (.aload_n 0, 1) := by decide +kernel
theorem dX10_put_17 : decode cX10_put 17 = .ok (.getfield 39, 3) := by decide +kernel
theorem dX10_put_20 : decode cX10_put 20 = .ok (.iload_n 2, 1) := by decide +kernel
theorem dX10_put_21 : decode cX10_put 21 = .ok (.invokevirtual 164, 3) := by decide +kernel
theorem dX10_put_24 : decode cX10_put 24 = .ok (.ifCond .ne 5, 3) := by decide +kernel
theorem dX10_put_27 : decode cX10_put 27 = .ok (.iconst 0, 1) := by decide +kernel
theorem dX10_put_28 : decode cX10_put 28 = .ok (.ireturn, 1) := by decide +kernel
theorem dX10_put_29 : decode cX10_put 29 = .ok (.iload_n 2, 1) := by decide +kernel
theorem dX10_put_30 : decode cX10_put 30 = .ok (.iconst (-1), 1) := by decide +kernel
theorem dX10_put_31 : decode cX10_put 31 = .ok (.if_icmp .eq 17, 3) := by decide +kernel
theorem dX10_put_34 : decode cX10_put 34 = .ok (.aload_n 0, 1) := by decide +kernel
theorem dX10_put_35 : decode cX10_put 35 = .ok (.iload_n 2, 1) := by decide +kernel
theorem dX10_put_36 : decode cX10_put 36 = .ok (.iload_n 1, 1) := by decide +kernel
theorem dX10_put_37 : decode cX10_put 37 = .ok (.invokevirtual 167, 3) := by decide +kernel
theorem dX10_put_40 : decode cX10_put 40 = .ok (.sipush 300, 3) := by decide +kernel
theorem dX10_put_43 : decode cX10_put 43 = .ok (.if_icmp .le 5, 3) := by decide +kernel
theorem dX10_put_46 : decode cX10_put 46 = .ok (.iconst 0, 1) := by decide +kernel
theorem dX10_put_47 : decode cX10_put 47 = .ok (.ireturn, 1) := by decide +kernel
theorem dX10_put_48 : decode cX10_put 48 = .ok (.aload_n 0, 1) := by decide +kernel
theorem dX10_put_49 : decode cX10_put 49 = .ok (.getfield 32, 3) := by decide +kernel
theorem dX10_put_52 : decode cX10_put 52 = .ok (.getfield 170, 3) := by decide +kernel
theorem dX10_put_55 : decode cX10_put 55 = .ok (.iload_n 1, 1) := by decide +kernel
theorem dX10_put_56 : decode cX10_put 56 = .ok (.iload_n 2, 1) := by decide +kernel
theorem dX10_put_57 : decode cX10_put 57 = .ok (.iastore, 1) := by decide +kernel
theorem dX10_put_58 : decode cX10_put 58 = .ok (.iconst 1, 1) := by decide +kernel
theorem dX10_put_59 : decode cX10_put 59 = .ok (.ireturn, 1) := by decide +kernel
theorem dX10_of_0 : decode cX10_of 0 = .ok (.aload_n 0, 1) := by decide +kernel
theorem dX10_of_1 : decode cX10_of 1 = .ok (.getfield 39, 3) := by decide +kernel
theorem dX10_of_4 : decode cX10_of 4 = .ok (.iload_n 1, 1) := by decide +kernel
theorem dX10_of_5 : decode cX10_of 5 = .ok (.invokevirtual 164, 3) := by decide +kernel
theorem dX10_of_8 : decode cX10_of 8 = .ok (.ifCond .ne 5, 3) := by decide +kernel
theorem dX10_of_11 : decode cX10_of 11 = .ok (.iconst (-1), 1) := by decide +kernel
theorem dX10_of_12 : decode cX10_of 12 = .ok (.ireturn, 1) := by decide +kernel
theorem dX10_of_13 : decode cX10_of 13 = .ok (.iload_n 2, 1) := by decide +kernel
theorem dX10_of_14 : decode cX10_of 14 = .ok (.tableswitch 66 0 3 #[30, 40, 50, 59], 30) := by decide +kernel
theorem dX10_of_44 : decode cX10_of 44 = .ok (.aload_n 0, 1) := by decide +kernel
theorem dX10_of_45 : decode cX10_of 45 = .ok (.getfield 39, 3) := by decide +kernel
theorem dX10_of_48 : decode cX10_of 48 = .ok (.getfield 173, 3) := by decide +kernel
theorem dX10_of_51 : decode cX10_of 51 = .ok (.iload_n 1, 1) := by decide +kernel
theorem dX10_of_52 : decode cX10_of 52 = .ok (.iaload, 1) := by decide +kernel
theorem dX10_of_53 : decode cX10_of 53 = .ok (.ireturn, 1) := by decide +kernel
theorem dX10_of_54 : decode cX10_of 54 = .ok (.aload_n 0, 1) := by decide +kernel
theorem dX10_of_55 : decode cX10_of 55 = .ok (.getfield 39, 3) := by decide +kernel
theorem dX10_of_58 : decode cX10_of 58 = .ok (.getfield 176, 3) := by decide +kernel
theorem dX10_of_61 : decode cX10_of 61 = .ok (.iload_n 1, 1) := by decide +kernel
theorem dX10_of_62 : decode cX10_of 62 = .ok (.iaload, 1) := by decide +kernel
theorem dX10_of_63 : decode cX10_of 63 = .ok (.ireturn, 1) := by decide +kernel
theorem dX10_of_64 : decode cX10_of 64 = .ok (.aload_n 0, 1) := by decide +kernel
theorem dX10_of_65 : decode cX10_of 65 = .ok (.getfield 32, 3) := by decide +kernel
theorem dX10_of_68 : decode cX10_of 68 = .ok (.iload_n 1, 1) := by decide +kernel
theorem dX10_of_69 : decode cX10_of 69 = .ok (.invokevirtual 179, 3) := by decide +kernel
theorem dX10_of_72 : decode cX10_of 72 = .ok (.ireturn, 1) := by decide +kernel
theorem dX10_of_73 : decode cX10_of 73 = .ok (.aload_n 0, 1) := by decide +kernel
theorem dX10_of_74 : decode cX10_of 74 = .ok (.iload_n 1, 1) := by decide +kernel
theorem dX10_of_75 : decode cX10_of 75 = .ok (.iconst (-1), 1) := by decide +kernel
theorem dX10_of_76 : decode cX10_of 76 = .ok (.invokevirtual 167, 3) := by decide +kernel
theorem dX10_of_79 : decode cX10_of 79 = .ok (.ireturn, 1) := by decide +kernel
theorem dX10_of_80 : decode cX10_of 80 = .ok (.iconst (-1), 1) := by decide +kernel
theorem dX10_of_81 : decode cX10_of 81 = .ok (.ireturn, 1) := by decide +kernel
theorem dX10_may_0 : decode cX10_may 0 = .ok (.aload_n 0, 1) := by decide +kernel
theorem dX10_may_1 : decode cX10_may 1 = .ok (.getfield 39, 3) := by decide +kernel
theorem dX10_may_4 : decode cX10_may 4 = .ok (.iload_n 1, 1) := by decide +kernel
theorem dX10_may_5 : decode cX10_may 5 = .ok (.invokevirtual 126, 3) := by decide +kernel
theorem dX10_may_8 : decode cX10_may 8 = .ok (.ifCond .eq 14, 3) := by decide +kernel
theorem dX10_may_11 : decode cX10_may 11 = .ok (.aload_n 0, 1) := by decide +kernel
theorem dX10_may_12 : decode cX10_may 12 = .ok (.getfield 39, 3) := by decide +kernel
theorem dX10_may_15 : decode cX10_may 15 = .ok (.iload_n 2, 1) := by decide +kernel
theorem dX10_may_16 : decode cX10_may 16 = .ok (.invokevirtual 164, 3) := by decide +kernel
theorem dX10_may_19 : decode cX10_may 19 = .ok (.ifCond .ne 5, 3) := by decide +kernel
theorem dX10_may_22 : decode cX10_may 22 = .ok (.iconst (-1), 1) := by decide +kernel
theorem dX10_may_23 : decode cX10_may 23 = .ok (.ireturn, 1) := by decide +kernel
theorem dX10_may_24 : decode cX10_may 24 = .ok (.aload_n 0, 1) := by decide +kernel
theorem dX10_may_25 : decode cX10_may 25 = .ok (.iload_n 1, 1) := by decide +kernel
theorem dX10_may_26 : decode cX10_may 26 = .ok (.iload_n 2, 1) := by decide +kernel
theorem dX10_may_27 : decode cX10_may 27 = .ok (.invokevirtual 182, 3) := by decide +kernel
theorem dX10_may_30 : decode cX10_may 30 = .ok (.ifCond .eq 7, 3) := by decide +kernel
theorem dX10_may_33 : decode cX10_may 33 = .ok (.iconst 1, 1) := by decide +kernel
theorem dX10_may_34 : decode cX10_may 34 = .ok (.goto 4, 3) := by decide +kernel
theorem dX10_may_37 : decode cX10_may 37 = .ok (.iconst 0, 1) := by decide +kernel
theorem dX10_may_38 : decode cX10_may 38 = .ok (.ireturn, 1) := by decide +kernel
theorem dX10_tour_0 : decode cX10_tour 0 = .ok (.iconst 0, 1) := by decide +kernel
theorem dX10_tour_1 : decode cX10_tour 1 = .ok (.istore_n 1, 1) := by decide +kernel
theorem dX10_tour_2 : decode cX10_tour 2 = .ok (.iload_n 1, 1) := by decide +kernel
theorem dX10_tour_3 : decode cX10_tour 3 = .ok (.aload_n 0, 1) := by decide +kernel
theorem dX10_tour_4 : decode cX10_tour 4 = .ok (.getfield 39, 3) := by decide +kernel
theorem dX10_tour_7 : decode cX10_tour 7 = .ok (.getfield 186, 3) := by decide +kernel
theorem dX10_tour_10 : decode cX10_tour 10 = .ok (.if_icmp .ge 43, 3) := by decide +kernel
theorem dX10_tour_13 : decode cX10_tour 13 = .ok (.iconst 0, 1) := by decide +kernel
theorem dX10_tour_14 : decode cX10_tour 14 = .ok (.istore_n 2, 1) := by decide +kernel
theorem dX10_tour_15 : decode cX10_tour 15 = .ok (.iload_n 2, 1) := by decide +kernel
theorem dX10_tour_16 : decode cX10_tour 16 = .ok (.aload_n 0, 1) := by decide +kernel
theorem dX10_tour_17 : decode cX10_tour 17 = .ok (.getfield 39, 3) := by decide +kernel
theorem dX10_tour_20 : decode cX10_tour 20 = .ok (.getfield 188, 3) := by decide +kernel
theorem dX10_tour_23 : decode cX10_tour 23 = .ok (.if_icmp .ge 24, 3) := by decide +kernel
theorem dX10_tour_26 : decode cX10_tour 26 = .ok (.aload_n 0, 1) := by decide +kernel
theorem dX10_tour_27 : decode cX10_tour 27 = .ok (.getfield 46, 3) := by decide +kernel
theorem dX10_tour_30 : decode cX10_tour 30 = .ok (.iload_n 2, 1) := by decide +kernel
theorem dX10_tour_31 : decode cX10_tour 31 = .ok (.iload_n 1, 1) := by decide +kernel
theorem dX10_tour_32 : decode cX10_tour 32 = .ok (.aload_n 0, 1) := by decide +kernel
theorem dX10_tour_33 : decode cX10_tour 33 = .ok (.iload_n 2, 1) := by decide +kernel
theorem dX10_tour_34 : decode cX10_tour 34 = .ok (.iload_n 1, 1) := by decide +kernel
theorem dX10_tour_35 : decode cX10_tour 35 = .ok (.invokevirtual 182, 3) := by decide +kernel
theorem dX10_tour_38 : decode cX10_tour 38 = .ok (.invokevirtual 191, 3) := by decide +kernel
theorem dX10_tour_41 : decode cX10_tour 41 = .ok (.iinc 2 1, 3) := by decide +kernel
theorem dX10_tour_44 : decode cX10_tour 44 = .ok (.goto (-29), 3) := by decide +kernel
theorem dX10_tour_47 : decode cX10_tour 47 = .ok (.iinc 1 1, 3) := by decide +kernel
theorem dX10_tour_50 : decode cX10_tour 50 = .ok (.goto (-48), 3) := by decide +kernel
theorem dX10_tour_53 : decode cX10_tour 53 = .ok (.aload_n 0, 1) := by decide +kernel
theorem dX10_tour_54 : decode cX10_tour 54 = .ok (.getfield 46, 3) := by decide +kernel
theorem dX10_tour_57 : decode cX10_tour 57 = .ok (.aload_n 0, 1) := by decide +kernel
theorem dX10_tour_58 : decode cX10_tour 58 = .ok (.getfield 39, 3) := by decide +kernel
theorem dX10_tour_61 : decode cX10_tour 61 = .ok (.invokevirtual 195, 3) := by decide +kernel
theorem dX10_tour_64 : decode cX10_tour 64 = .ok (.ireturn, 1) := by decide +kernel
theorem dX10_toured_0 : decode cX10_toured 0 = .ok (.aload_n 0, 1) := by decide +kernel
theorem dX10_toured_1 : decode cX10_toured 1 = .ok (.getfield 39, 3) := by decide +kernel
theorem dX10_toured_4 : decode cX10_toured 4 = .ok (.iload_n 1, 1) := by decide +kernel
theorem dX10_toured_5 : decode cX10_toured 5 = .ok (.invokevirtual 164, 3) := by decide +kernel
theorem dX10_toured_8 : decode cX10_toured 8 = .ok (.ifCond .eq 15, 3) := by decide +kernel
theorem dX10_toured_11 : decode cX10_toured 11 = .ok (.aload_n 0, 1) := by decide +kernel
theorem dX10_toured_12 : decode cX10_toured 12 = .ok (.getfield 46, 3) := by decide +kernel
theorem dX10_toured_15 : decode cX10_toured 15 = .ok (.getfield 199, 3) := by decide +kernel
theorem dX10_toured_18 : decode cX10_toured 18 = .ok (.iload_n 1, 1) := by decide +kernel
theorem dX10_toured_19 : decode cX10_toured 19 = .ok (.iaload, 1) := by decide +kernel
theorem dX10_toured_20 : decode cX10_toured 20 = .ok (.goto 4, 3) := by decide +kernel
theorem dX10_toured_23 : decode cX10_toured 23 = .ok (.iconst (-1), 1) := by decide +kernel
theorem dX10_toured_24 : decode cX10_toured 24 = .ok (.ireturn, 1) := by decide +kernel
theorem dX10_stuck_0 : decode cX10_stuck 0 = .ok (.iconst 0, 1) := by decide +kernel
theorem dX10_stuck_1 : decode cX10_stuck 1 = .ok (.istore_n 1, 1) := by decide +kernel
theorem dX10_stuck_2 : decode cX10_stuck 2 = .ok (.iload_n 1, 1) := by decide +kernel
theorem dX10_stuck_3 : decode cX10_stuck 3 = .ok (.aload_n 0, 1) := by decide +kernel
theorem dX10_stuck_4 : decode cX10_stuck 4 = .ok (.getfield 39, 3) := by decide +kernel
theorem dX10_stuck_7 : decode cX10_stuck 7 = .ok (.getfield 186, 3) := by decide +kernel
theorem dX10_stuck_10 : decode cX10_stuck 10 = .ok (.if_icmp .ge 19, 3) := by decide +kernel
theorem dX10_stuck_13 : decode cX10_stuck 13 = .ok (.aload_n 0, 1) := by decide +kernel
theorem dX10_stuck_14 : decode cX10_stuck 14 = .ok (.iload_n 1, 1) := by decide +kernel
theorem dX10_stuck_15 : decode cX10_stuck 15 = .ok (.invokevirtual 202, 3) := by decide +kernel
theorem dX10_stuck_18 : decode cX10_stuck 18 = .ok (.ifCond .ne 5, 3) := by decide +kernel
theorem dX10_stuck_21 : decode cX10_stuck 21 = .ok (.iload_n 1, 1) := by decide +kernel
theorem dX10_stuck_22 : decode cX10_stuck 22 = .ok (.ireturn, 1) := by decide +kernel
theorem dX10_stuck_23 : decode cX10_stuck 23 = .ok (.iinc 1 1, 3) := by decide +kernel
theorem dX10_stuck_26 : decode cX10_stuck 26 = .ok (.goto (-24), 3) := by decide +kernel
theorem dX10_stuck_29 : decode cX10_stuck 29 = .ok (.iconst (-1), 1) := by decide +kernel
theorem dX10_stuck_30 : decode cX10_stuck 30 = .ok (.ireturn, 1) := by decide +kernel
theorem dX10_later_0 : decode cX10_later 0 = .ok (.iload_n 1, 1) := by decide +kernel
theorem dX10_later_1 : decode cX10_later 1 = .ok (.iconst 0, 1) := by decide +kernel
theorem dX10_later_2 : decode cX10_later 2 = .ok (.sipush 1000, 3) := by decide +kernel
theorem dX10_later_5 : decode cX10_later 5 = .ok (.invokestatic 122, 3) := by decide +kernel
theorem dX10_later_8 : decode cX10_later 8 = .ok (.ifCond .eq 17, 3) := by decide +kernel
theorem dX10_later_11 : decode cX10_later 11 = .ok (.aload_n 0, 1) := by decide +kernel
theorem dX10_later_12 : decode cX10_later 12 = .ok (.getfield 53, 3) := by decide +kernel
theorem dX10_later_15 : decode cX10_later 15 = .ok (.getfield 205, 3) := by decide +kernel
theorem dX10_later_18 : decode cX10_later 18 = .ok (.iload_n 1, 1) := by decide +kernel
theorem dX10_later_19 : decode cX10_later 19 = .ok (.iadd, 1) := by decide +kernel
theorem dX10_later_20 : decode cX10_later 20 = .ok (.ldc 208, 2) := by decide +kernel
theorem dX10_later_22 : decode cX10_later 22 = .ok (.if_icmp .le 5, 3) := by decide +kernel
theorem dX10_later_25 : decode cX10_later 25 = .ok (.iconst (-1), 1) := by decide +kernel
theorem dX10_later_26 : decode cX10_later 26 = .ok (.ireturn, 1) := by decide +kernel
theorem dX10_later_27 : decode cX10_later 27 = .ok (.aload_n 0, 1) := by decide +kernel
theorem dX10_later_28 : decode cX10_later 28 = .ok (.getfield 53, 3) := by decide +kernel
theorem dX10_later_31 : decode cX10_later 31 = .ok (.dup, 1) := by decide +kernel
theorem dX10_later_32 : decode cX10_later 32 = .ok (.getfield 205, 3) := by decide +kernel
theorem dX10_later_35 : decode cX10_later 35 = .ok (.iload_n 1, 1) := by decide +kernel
theorem dX10_later_36 : decode cX10_later 36 = .ok (.iadd, 1) := by decide +kernel
theorem dX10_later_37 : decode cX10_later 37 = .ok (.putfield 205, 3) := by decide +kernel
theorem dX10_later_40 : decode cX10_later 40 = .ok (.aload_n 0, 1) := by decide +kernel
theorem dX10_later_41 : decode cX10_later 41 = .ok (.getfield 53, 3) := by decide +kernel
theorem dX10_later_44 : decode cX10_later 44 = .ok (.getfield 205, 3) := by decide +kernel
theorem dX10_later_47 : decode cX10_later 47 = .ok (.ireturn, 1) := by decide +kernel
theorem dX10_mark_0 : decode cX10_mark 0 = .ok (.aload_n 0, 1) := by decide +kernel
theorem dX10_mark_1 : decode cX10_mark 1 = .ok (.getfield 39, 3) := by decide +kernel
theorem dX10_mark_4 : decode cX10_mark 4 = .ok (.iload_n 2, 1) := by decide +kernel
theorem dX10_mark_5 : decode cX10_mark 5 = .ok (.invokevirtual 126, 3) := by decide +kernel
theorem dX10_mark_8 : decode cX10_mark 8 = .ok (.ifCond .eq 18, 3) := by decide +kernel
theorem dX10_mark_11 : decode cX10_mark 11 = .ok (.aload_n 0, 1) := by decide +kernel
theorem dX10_mark_12 : decode cX10_mark 12 = .ok (.iload_n 1, 1) := by decide +kernel
theorem dX10_mark_13 : decode cX10_mark 13 = .ok (.iload_n 3, 1) := by decide +kernel
theorem dX10_mark_14 : decode cX10_mark 14 = .ok (.iload 4, 2) := by decide +kernel
theorem dX10_mark_16 : decode cX10_mark 16 = .ok (.invokevirtual 209, 3) := by decide +kernel
theorem dX10_mark_19 : decode cX10_mark 19 = .ok (.ifCond .eq 7, 3) := by decide +kernel
theorem dX10_mark_22 : decode cX10_mark 22 = .ok (.iconst 1, 1) := by decide +kernel
theorem dX10_mark_23 : decode cX10_mark 23 = .ok (.goto 4, 3) := by decide +kernel
theorem dX10_mark_26 : decode cX10_mark 26 = .ok (.iconst 0, 1) := by decide +kernel
theorem dX10_mark_27 : decode cX10_mark 27 = .ok (.istore 5, 2) := by decide +kernel
theorem dX10_mark_29 : decode cX10_mark 29 = .ok (.iload 5, 2) := by decide +kernel
theorem dX10_mark_31 : decode cX10_mark 31 = .ok (.ifCond .eq 18, 3) := by decide +kernel
theorem dX10_mark_34 : decode cX10_mark 34 = .ok (.aload_n 0, 1) := by decide +kernel
theorem dX10_mark_35 : decode cX10_mark 35 = .ok (.getfield 53, 3) := by decide +kernel
theorem dX10_mark_38 : decode cX10_mark 38 = .ok (.iload_n 2, 1) := by decide +kernel
theorem dX10_mark_39 : decode cX10_mark 39 = .ok (.iload_n 1, 1) := by decide +kernel
theorem dX10_mark_40 : decode cX10_mark 40 = .ok (.iload_n 3, 1) := by decide +kernel
theorem dX10_mark_41 : decode cX10_mark 41 = .ok (.iload 4, 2) := by decide +kernel
theorem dX10_mark_43 : decode cX10_mark 43 = .ok (.invokevirtual 212, 3) := by decide +kernel
theorem dX10_mark_46 : decode cX10_mark 46 = .ok (.goto 4, 3) := by decide +kernel
theorem dX10_mark_49 : decode cX10_mark 49 = .ok (.iconst (-1), 1) := by decide +kernel
theorem dX10_mark_50 : decode cX10_mark 50 = .ok (.ireturn, 1) := by decide +kernel
theorem dX10_appeal_0 : decode cX10_appeal 0 = .ok (.aload_n 0, 1) := by decide +kernel
theorem dX10_appeal_1 : decode cX10_appeal 1 = .ok (.iload_n 1, 1) := by decide +kernel
theorem dX10_appeal_2 : decode cX10_appeal 2 = .ok (.iload_n 2, 1) := by decide +kernel
theorem dX10_appeal_3 : decode cX10_appeal 3 = .ok (.iload_n 3, 1) := by decide +kernel
theorem dX10_appeal_4 : decode cX10_appeal 4 = .ok (.invokevirtual 209, 3) := by decide +kernel
theorem dX10_appeal_7 : decode cX10_appeal 7 = .ok (.ifCond .eq 27, 3) := by decide +kernel
theorem dX10_appeal_10 : decode cX10_appeal 10 = .ok (.aload_n 0, 1) := by decide +kernel
theorem dX10_appeal_11 : decode cX10_appeal 11 = .ok (.getfield 53, 3) := by decide +kernel
theorem dX10_appeal_14 : decode cX10_appeal 14 = .ok (.iload_n 1, 1) := by decide +kernel
theorem dX10_appeal_15 : decode cX10_appeal 15 = .ok (.iload_n 2, 1) := by decide +kernel
theorem dX10_appeal_16 : decode cX10_appeal 16 = .ok (.aload_n 0, 1) := by decide +kernel
theorem dX10_appeal_17 : decode cX10_appeal 17 = .ok (.getfield 53, 3) := by decide +kernel
theorem dX10_appeal_20 : decode cX10_appeal 20 = .ok (.getfield 205, 3) := by decide +kernel
theorem dX10_appeal_23 : decode cX10_appeal 23 = .ok (.invokevirtual 216, 3) := by decide +kernel
theorem dX10_appeal_26 : decode cX10_appeal 26 = .ok (.iconst (-1), 1) := by decide +kernel
theorem dX10_appeal_27 : decode cX10_appeal 27 = .ok (.if_icmp .eq 7, 3) := by decide +kernel
theorem dX10_appeal_30 : decode cX10_appeal 30 = .ok (.iconst 1, 1) := by decide +kernel
theorem dX10_appeal_31 : decode cX10_appeal 31 = .ok (.goto 4, 3) := by decide +kernel
theorem dX10_appeal_34 : decode cX10_appeal 34 = .ok (.iconst 0, 1) := by decide +kernel
theorem dX10_appeal_35 : decode cX10_appeal 35 = .ok (.istore 4, 2) := by decide +kernel
theorem dX10_appeal_37 : decode cX10_appeal 37 = .ok (.iload 4, 2) := by decide +kernel
theorem dX10_appeal_39 : decode cX10_appeal 39 = .ok (.ifCond .eq 17, 3) := by decide +kernel
theorem dX10_appeal_42 : decode cX10_appeal 42 = .ok (.aload_n 0, 1) := by decide +kernel
theorem dX10_appeal_43 : decode cX10_appeal 43 = .ok (.getfield 53, 3) := by decide +kernel
theorem dX10_appeal_46 : decode cX10_appeal 46 = .ok (.iconst 5, 1) := by decide +kernel
theorem dX10_appeal_47 : decode cX10_appeal 47 = .ok (.iload_n 1, 1) := by decide +kernel
theorem dX10_appeal_48 : decode cX10_appeal 48 = .ok (.iload_n 2, 1) := by decide +kernel
theorem dX10_appeal_49 : decode cX10_appeal 49 = .ok (.iload_n 3, 1) := by decide +kernel
theorem dX10_appeal_50 : decode cX10_appeal 50 = .ok (.invokevirtual 212, 3) := by decide +kernel
theorem dX10_appeal_53 : decode cX10_appeal 53 = .ok (.goto 4, 3) := by decide +kernel
theorem dX10_appeal_56 : decode cX10_appeal 56 = .ok (.iconst (-1), 1) := by decide +kernel
theorem dX10_appeal_57 : decode cX10_appeal 57 = .ok (.ireturn, 1) := by decide +kernel
theorem dX10_untell_0 : decode cX10_untell 0 = .ok (.aload_n 0, 1) := by decide +kernel
theorem dX10_untell_1 : decode cX10_untell 1 = .ok (.getfield 53, 3) := by decide +kernel
theorem dX10_untell_4 : decode cX10_untell 4 = .ok (.iload_n 1, 1) := by decide +kernel
theorem dX10_untell_5 : decode cX10_untell 5 = .ok (.invokevirtual 220, 3) := by decide +kernel
theorem dX10_untell_8 : decode cX10_untell 8 = .ok (.ireturn, 1) := by decide +kernel
theorem dX10_known_0 : decode cX10_known 0 = .ok (.aload_n 0, 1) := by decide +kernel
theorem dX10_known_1 : decode cX10_known 1 = .ok (.getfield 53, 3) := by decide +kernel
theorem dX10_known_4 : decode cX10_known 4 = .ok (.iload_n 1, 1) := by decide +kernel
theorem dX10_known_5 : decode cX10_known 5 = .ok (.iload_n 2, 1) := by decide +kernel
theorem dX10_known_6 : decode cX10_known 6 = .ok (.iload_n 3, 1) := by decide +kernel
theorem dX10_known_7 : decode cX10_known 7 = .ok (.invokevirtual 216, 3) := by decide +kernel
theorem dX10_known_10 : decode cX10_known 10 = .ok (.ireturn, 1) := by decide +kernel
theorem dX10_main_0 : decode cX10_main 0 = .ok (.aload_n 0, 1) := by decide +kernel
theorem dX10_main_1 : decode cX10_main 1 = .ok (.getfield 53, 3) := by decide +kernel
theorem dX10_main_4 : decode cX10_main 4 = .ok (.iload_n 1, 1) := by decide +kernel
theorem dX10_main_5 : decode cX10_main 5 = .ok (.iload_n 2, 1) := by decide +kernel
theorem dX10_main_6 : decode cX10_main 6 = .ok (.invokevirtual 223, 3) := by decide +kernel
theorem dX10_main_9 : decode cX10_main 9 = .ok (.ireturn, 1) := by decide +kernel
theorem dX10_result_0 : decode cX10_result 0 = .ok (.aload_n 0, 1) := by decide +kernel
theorem dX10_result_1 : decode cX10_result 1 = .ok (.getfield 32, 3) := by decide +kernel
theorem dX10_result_4 : decode cX10_result 4 = .ok (.iload_n 1, 1) := by decide +kernel
theorem dX10_result_5 : decode cX10_result 5 = .ok (.invokevirtual 133, 3) := by decide +kernel
theorem dX10_result_8 : decode cX10_result 8 = .ok (.ifCond .eq 12, 3) := by decide +kernel
theorem dX10_result_11 : decode cX10_result 11 = .ok (.aload_n 0, 1) := by decide +kernel
theorem dX10_result_12 : decode cX10_result 12 = .ok (.iload_n 1, 1) := by decide +kernel
theorem dX10_result_13 : decode cX10_result 13 = .ok (.iload_n 2, 1) := by decide +kernel
theorem dX10_result_14 : decode cX10_result 14 = .ok (.invokevirtual 226, 3) := by decide +kernel
theorem dX10_result_17 : decode cX10_result 17 = .ok (.goto 4, 3) := by decide +kernel
theorem dX10_result_20 : decode cX10_result 20 = .ok (.iconst (-1), 1) := by decide +kernel
theorem dX10_result_21 : decode cX10_result 21 = .ok (.ireturn, 1) := by decide +kernel
theorem dX10_hardness_0 : decode cX10_hardness 0 = .ok (.aload_n 0, 1) := by decide +kernel
theorem dX10_hardness_1 : decode cX10_hardness 1 = .ok (.getfield 39, 3) := by decide +kernel
theorem dX10_hardness_4 : decode cX10_hardness 4 = .ok (.iload_n 1, 1) := by decide +kernel
theorem dX10_hardness_5 : decode cX10_hardness 5 = .ok (.invokevirtual 126, 3) := by decide +kernel
theorem dX10_hardness_8 : decode cX10_hardness 8 = .ok (.ifCond .ne 7, 3) := by decide +kernel
theorem dX10_hardness_11 : decode cX10_hardness 11 = .ok (.sipush (-1000), 3) := by decide +kernel
theorem dX10_hardness_14 : decode cX10_hardness 14 = .ok (.ireturn, 1) := by decide +kernel
theorem dX10_hardness_15 : decode cX10_hardness 15 = .ok (.aload_n 0, 1) := by decide +kernel
theorem dX10_hardness_16 : decode cX10_hardness 16 = .ok (.getfield 53, 3) := by decide +kernel
theorem dX10_hardness_19 : decode cX10_hardness 19 = .ok (.iload_n 1, 1) := by decide +kernel
theorem dX10_hardness_20 : decode cX10_hardness 20 = .ok (.aload_n 0, 1) := by decide +kernel
theorem dX10_hardness_21 : decode cX10_hardness 21 = .ok (.getfield 39, 3) := by decide +kernel
theorem dX10_hardness_24 : decode cX10_hardness 24 = .ok (.getfield 188, 3) := by decide +kernel
theorem dX10_hardness_27 : decode cX10_hardness 27 = .ok (.invokevirtual 229, 3) := by decide +kernel
theorem dX10_hardness_30 : decode cX10_hardness 30 = .ok (.ireturn, 1) := by decide +kernel
theorem dX10_certify_0 : decode cX10_certify 0 = .ok (.aload_n 0, 1) := by decide +kernel
theorem dX10_certify_1 : decode cX10_certify 1 = .ok (.getfield 32, 3) := by decide +kernel
theorem dX10_certify_4 : decode cX10_certify 4 = .ok (.iload_n 1, 1) := by decide +kernel
theorem dX10_certify_5 : decode cX10_certify 5 = .ok (.invokevirtual 133, 3) := by decide +kernel
theorem dX10_certify_8 : decode cX10_certify 8 = .ok (.ifCond .ne 5, 3) := by decide +kernel
theorem dX10_certify_11 : decode cX10_certify 11 = .ok (.iconst (-1), 1) := by decide +kernel
theorem dX10_certify_12 : decode cX10_certify 12 = .ok (.ireturn, 1) := by decide +kernel
theorem dX10_certify_13 : decode cX10_certify 13 = .ok (.aload_n 0, 1) := by decide +kernel
theorem dX10_certify_14 : decode cX10_certify 14 = .ok (.iload_n 1, 1) := by decide +kernel
theorem dX10_certify_15 : decode cX10_certify 15 = .ok (.aload_n 0, 1) := by decide +kernel
theorem dX10_certify_16 : decode cX10_certify 16 = .ok (.getfield 53, 3) := by decide +kernel
theorem dX10_certify_19 : decode cX10_certify 19 = .ok (.getfield 205, 3) := by decide +kernel
theorem dX10_certify_22 : decode cX10_certify 22 = .ok (.invokevirtual 226, 3) := by decide +kernel
theorem dX10_certify_25 : decode cX10_certify 25 = .ok (.istore_n 2, 1) := by decide +kernel
theorem dX10_certify_26 : decode cX10_certify 26 = .ok (.iload_n 2, 1) := by decide +kernel
theorem dX10_certify_27 : decode cX10_certify 27 = .ok (.iconst 1, 1) := by decide +kernel
theorem dX10_certify_28 : decode cX10_certify 28 = .ok (.if_icmp .lt 15, 3) := by decide +kernel
theorem dX10_certify_31 : decode cX10_certify 31 = .ok (.aload_n 0, 1) := by decide +kernel
theorem dX10_certify_32 : decode cX10_certify 32 = .ok (.getfield 60, 3) := by decide +kernel
theorem dX10_certify_35 : decode cX10_certify 35 = .ok (.iload_n 1, 1) := by decide +kernel
theorem dX10_certify_36 : decode cX10_certify 36 = .ok (.iload_n 2, 1) := by decide +kernel
theorem dX10_certify_37 : decode cX10_certify 37 = .ok (.invokevirtual 232, 3) := by decide +kernel
theorem dX10_certify_40 : decode cX10_certify 40 = .ok (.ifCond .eq 5, 3) := by decide +kernel
theorem dX10_certify_43 : decode cX10_certify 43 = .ok (.iconst (-1), 1) := by decide +kernel
theorem dX10_certify_44 : decode cX10_certify 44 = .ok (.ireturn, 1) := by decide +kernel
theorem dX10_certify_45 : decode cX10_certify 45 = .ok (.aload_n 0, 1) := by decide +kernel
theorem dX10_certify_46 : decode cX10_certify 46 = .ok (.getfield 60, 3) := by decide +kernel
theorem dX10_certify_49 : decode cX10_certify 49 = .ok (.iload_n 1, 1) := by decide +kernel
theorem dX10_certify_50 : decode cX10_certify 50 = .ok (.aload_n 0, 1) := by decide +kernel
theorem dX10_certify_51 : decode cX10_certify 51 = .ok (.getfield 53, 3) := by decide +kernel
theorem dX10_certify_54 : decode cX10_certify 54 = .ok (.getfield 205, 3) := by decide +kernel
theorem dX10_certify_57 : decode cX10_certify 57 = .ok (.iload_n 2, 1) := by decide +kernel
theorem dX10_certify_58 : decode cX10_certify 58 = .ok (.invokevirtual 235, 3) := by decide +kernel
theorem dX10_certify_61 : decode cX10_certify 61 = .ok (.ireturn, 1) := by decide +kernel
theorem dX10_certificate_0 : decode cX10_certificate 0 = .ok (.aload_n 0, 1) := by decide +kernel
theorem dX10_certificate_1 : decode cX10_certificate 1 = .ok (.getfield 60, 3) := by decide +kernel
theorem dX10_certificate_4 : decode cX10_certificate 4 = .ok (.iload_n 1, 1) := by decide +kernel
theorem dX10_certificate_5 : decode cX10_certificate 5 = .ok (.invokevirtual 238, 3) := by decide +kernel
theorem dX10_certificate_8 : decode cX10_certificate 8 = .ok (.ifCond .ne 5, 3) := by decide +kernel
theorem dX10_certificate_11 : decode cX10_certificate 11 = .ok (.iconst (-1), 1) := by decide +kernel
theorem dX10_certificate_12 : decode cX10_certificate 12 = .ok (.ireturn, 1) := by decide +kernel
theorem dX10_certificate_13 : decode cX10_certificate 13 = .ok (.iload_n 2, 1) := by decide +kernel
theorem dX10_certificate_14 : decode cX10_certificate 14 = .ok (.tableswitch 62 0 2 #[26, 38, 50], 26) := by decide +kernel
theorem dX10_certificate_40 : decode cX10_certificate 40 = .ok (.aload_n 0, 1) := by decide +kernel
theorem dX10_certificate_41 : decode cX10_certificate 41 = .ok (.getfield 60, 3) := by decide +kernel
theorem dX10_certificate_44 : decode cX10_certificate 44 = .ok (.getfield 239, 3) := by decide +kernel
theorem dX10_certificate_47 : decode cX10_certificate 47 = .ok (.iload_n 1, 1) := by decide +kernel
theorem dX10_certificate_48 : decode cX10_certificate 48 = .ok (.iconst 1, 1) := by decide +kernel
theorem dX10_certificate_49 : decode cX10_certificate 49 = .ok (.isub, 1) := by decide +kernel
theorem dX10_certificate_50 : decode cX10_certificate 50 = .ok (.iaload, 1) := by decide +kernel
theorem dX10_certificate_51 : decode cX10_certificate 51 = .ok (.ireturn, 1) := by decide +kernel
theorem dX10_certificate_52 : decode cX10_certificate 52 = .ok (.aload_n 0, 1) := by decide +kernel
theorem dX10_certificate_53 : decode cX10_certificate 53 = .ok (.getfield 60, 3) := by decide +kernel
theorem dX10_certificate_56 : decode cX10_certificate 56 = .ok (.getfield 241, 3) := by decide +kernel
theorem dX10_certificate_59 : decode cX10_certificate 59 = .ok (.iload_n 1, 1) := by decide +kernel
theorem dX10_certificate_60 : decode cX10_certificate 60 = .ok (.iconst 1, 1) := by decide +kernel
theorem dX10_certificate_61 : decode cX10_certificate 61 = .ok (.isub, 1) := by decide +kernel
theorem dX10_certificate_62 : decode cX10_certificate 62 = .ok (.iaload, 1) := by decide +kernel
theorem dX10_certificate_63 : decode cX10_certificate 63 = .ok (.ireturn, 1) := by decide +kernel
theorem dX10_certificate_64 : decode cX10_certificate 64 = .ok (.aload_n 0, 1) := by decide +kernel
theorem dX10_certificate_65 : decode cX10_certificate 65 = .ok (.getfield 60, 3) := by decide +kernel
theorem dX10_certificate_68 : decode cX10_certificate 68 = .ok (.getfield 242, 3) := by decide +kernel
theorem dX10_certificate_71 : decode cX10_certificate 71 = .ok (.iload_n 1, 1) := by decide +kernel
theorem dX10_certificate_72 : decode cX10_certificate 72 = .ok (.iconst 1, 1) := by decide +kernel
theorem dX10_certificate_73 : decode cX10_certificate 73 = .ok (.isub, 1) := by decide +kernel
theorem dX10_certificate_74 : decode cX10_certificate 74 = .ok (.iaload, 1) := by decide +kernel
theorem dX10_certificate_75 : decode cX10_certificate 75 = .ok (.ireturn, 1) := by decide +kernel
theorem dX10_certificate_76 : decode cX10_certificate 76 = .ok (.iconst (-1), 1) := by decide +kernel
theorem dX10_certificate_77 : decode cX10_certificate 77 = .ok (.ireturn, 1) := by decide +kernel
theorem dX10_holds_0 : decode cX10_holds 0 = .ok (.aload_n 0, 1) := by decide +kernel
theorem dX10_holds_1 : decode cX10_holds 1 = .ok (.getfield 60, 3) := by decide +kernel
theorem dX10_holds_4 : decode cX10_holds 4 = .ok (.iload_n 1, 1) := by decide +kernel
theorem dX10_holds_5 : decode cX10_holds 5 = .ok (.invokevirtual 238, 3) := by decide +kernel
theorem dX10_holds_8 : decode cX10_holds 8 = .ok (.ifCond .ne 5, 3) := by decide +kernel
theorem dX10_holds_11 : decode cX10_holds 11 = .ok (.iconst (-1), 1) := by decide +kernel
theorem dX10_holds_12 : decode cX10_holds 12 = .ok (.ireturn, 1) := by decide +kernel
theorem dX10_holds_13 : decode cX10_holds 13 = .ok (.iload_n 2, 1) := by decide +kernel
theorem dX10_holds_14 : decode cX10_holds 14 = .ok (.aload_n 0, 1) := by decide +kernel
theorem dX10_holds_15 : decode cX10_holds 15 = .ok (.getfield 60, 3) := by decide +kernel
theorem dX10_holds_18 : decode cX10_holds 18 = .ok (.getfield 241, 3) := by decide +kernel
theorem dX10_holds_21 : decode cX10_holds 21 = .ok (.iload_n 1, 1) := by decide +kernel
theorem dX10_holds_22 : decode cX10_holds 22 = .ok (.iconst 1, 1) := by decide +kernel
theorem dX10_holds_23 : decode cX10_holds 23 = .ok (.isub, 1) := by decide +kernel
theorem dX10_holds_24 : decode cX10_holds 24 = .ok (.iaload, 1) := by decide +kernel
theorem dX10_holds_25 : decode cX10_holds 25 = .ok (.if_icmp .lt 7, 3) := by decide +kernel
theorem dX10_holds_28 : decode cX10_holds 28 = .ok (.iconst 1, 1) := by decide +kernel
theorem dX10_holds_29 : decode cX10_holds 29 = .ok (.goto 4, 3) := by decide +kernel
theorem dX10_holds_32 : decode cX10_holds 32 = .ok (.iconst 0, 1) := by decide +kernel
theorem dX10_holds_33 : decode cX10_holds 33 = .ok (.istore_n 3, 1) := by decide +kernel
theorem dX10_holds_34 : decode cX10_holds 34 = .ok (.aload_n 0, 1) := by decide +kernel
theorem dX10_holds_35 : decode cX10_holds 35 = .ok (.getfield 60, 3) := by decide +kernel
theorem dX10_holds_38 : decode cX10_holds 38 = .ok (.getfield 242, 3) := by decide +kernel
theorem dX10_holds_41 : decode cX10_holds 41 = .ok (.iload_n 1, 1) := by decide +kernel
theorem dX10_holds_42 : decode cX10_holds 42 = .ok (.iconst 1, 1) := by decide +kernel
theorem dX10_holds_43 : decode cX10_holds 43 = .ok (.isub, 1) := by decide +kernel
theorem dX10_holds_44 : decode cX10_holds 44 = .ok (.iaload, 1) := by decide +kernel
theorem dX10_holds_45 : decode cX10_holds 45 = .ok (.istore 4, 2) := by decide +kernel
theorem dX10_holds_47 : decode cX10_holds 47 = .ok (.iload_n 3, 1) := by decide +kernel
theorem dX10_holds_48 : decode cX10_holds 48 = .ok (.ifCond .eq 28, 3) := by decide +kernel
theorem dX10_holds_51 : decode cX10_holds 51 = .ok (.aload_n 0, 1) := by decide +kernel
theorem dX10_holds_52 : decode cX10_holds 52 = .ok (.aload_n 0, 1) := by decide +kernel
theorem dX10_holds_53 : decode cX10_holds 53 = .ok (.getfield 60, 3) := by decide +kernel
theorem dX10_holds_56 : decode cX10_holds 56 = .ok (.getfield 239, 3) := by decide +kernel
theorem dX10_holds_59 : decode cX10_holds 59 = .ok (.iload_n 1, 1) := by decide +kernel
theorem dX10_holds_60 : decode cX10_holds 60 = .ok (.iconst 1, 1) := by decide +kernel
theorem dX10_holds_61 : decode cX10_holds 61 = .ok (.isub, 1) := by decide +kernel
theorem dX10_holds_62 : decode cX10_holds 62 = .ok (.iaload, 1) := by decide +kernel
theorem dX10_holds_63 : decode cX10_holds 63 = .ok (.iload_n 2, 1) := by decide +kernel
theorem dX10_holds_64 : decode cX10_holds 64 = .ok (.invokevirtual 226, 3) := by decide +kernel
theorem dX10_holds_67 : decode cX10_holds 67 = .ok (.iload 4, 2) := by decide +kernel
theorem dX10_holds_69 : decode cX10_holds 69 = .ok (.if_icmp .lt 7, 3) := by decide +kernel
theorem dX10_holds_72 : decode cX10_holds 72 = .ok (.iconst 1, 1) := by decide +kernel
theorem dX10_holds_73 : decode cX10_holds 73 = .ok (.goto 4, 3) := by decide +kernel
theorem dX10_holds_76 : decode cX10_holds 76 = .ok (.iconst 0, 1) := by decide +kernel
theorem dX10_holds_77 : decode cX10_holds 77 = .ok (.ireturn, 1) := by decide +kernel
theorem dX10_about_0 : decode cX10_about 0 = .ok (.iload_n 1, 1) := by decide +kernel
theorem dX10_about_1 : decode cX10_about 1 = .ok (.tableswitch 114 0 7 #[47, 55, 63, 71, 79, 87, 95, 103], 47) := by decide +kernel
theorem dX10_about_48 : decode cX10_about 48 = .ok (.aload_n 0, 1) := by decide +kernel
theorem dX10_about_49 : decode cX10_about 49 = .ok (.getfield 53, 3) := by decide +kernel
theorem dX10_about_52 : decode cX10_about 52 = .ok (.getfield 205, 3) := by decide +kernel
theorem dX10_about_55 : decode cX10_about 55 = .ok (.ireturn, 1) := by decide +kernel
theorem dX10_about_56 : decode cX10_about 56 = .ok (.aload_n 0, 1) := by decide +kernel
theorem dX10_about_57 : decode cX10_about 57 = .ok (.getfield 32, 3) := by decide +kernel
theorem dX10_about_60 : decode cX10_about 60 = .ok (.getfield 245, 3) := by decide +kernel
theorem dX10_about_63 : decode cX10_about 63 = .ok (.ireturn, 1) := by decide +kernel
theorem dX10_about_64 : decode cX10_about 64 = .ok (.aload_n 0, 1) := by decide +kernel
theorem dX10_about_65 : decode cX10_about 65 = .ok (.getfield 39, 3) := by decide +kernel
theorem dX10_about_68 : decode cX10_about 68 = .ok (.getfield 248, 3) := by decide +kernel
theorem dX10_about_71 : decode cX10_about 71 = .ok (.ireturn, 1) := by decide +kernel
theorem dX10_about_72 : decode cX10_about 72 = .ok (.aload_n 0, 1) := by decide +kernel
theorem dX10_about_73 : decode cX10_about 73 = .ok (.getfield 39, 3) := by decide +kernel
theorem dX10_about_76 : decode cX10_about 76 = .ok (.getfield 188, 3) := by decide +kernel
theorem dX10_about_79 : decode cX10_about 79 = .ok (.ireturn, 1) := by decide +kernel
theorem dX10_about_80 : decode cX10_about 80 = .ok (.aload_n 0, 1) := by decide +kernel
theorem dX10_about_81 : decode cX10_about 81 = .ok (.getfield 39, 3) := by decide +kernel
theorem dX10_about_84 : decode cX10_about 84 = .ok (.getfield 186, 3) := by decide +kernel
theorem dX10_about_87 : decode cX10_about 87 = .ok (.ireturn, 1) := by decide +kernel
theorem dX10_about_88 : decode cX10_about 88 = .ok (.aload_n 0, 1) := by decide +kernel
theorem dX10_about_89 : decode cX10_about 89 = .ok (.getfield 53, 3) := by decide +kernel
theorem dX10_about_92 : decode cX10_about 92 = .ok (.getfield 251, 3) := by decide +kernel
theorem dX10_about_95 : decode cX10_about 95 = .ok (.ireturn, 1) := by decide +kernel
theorem dX10_about_96 : decode cX10_about 96 = .ok (.aload_n 0, 1) := by decide +kernel
theorem dX10_about_97 : decode cX10_about 97 = .ok (.getfield 60, 3) := by decide +kernel
theorem dX10_about_100 : decode cX10_about 100 = .ok (.getfield 252, 3) := by decide +kernel
theorem dX10_about_103 : decode cX10_about 103 = .ok (.ireturn, 1) := by decide +kernel
theorem dX10_about_104 : decode cX10_about 104 = .ok (.aload_n 0, 1) := by decide +kernel
theorem dX10_about_105 : decode cX10_about 105 = .ok (.getfield 12, 3) := by decide +kernel
theorem dX10_about_108 : decode cX10_about 108 = .ok (.getfield 64, 3) := by decide +kernel
theorem dX10_about_111 : decode cX10_about 111 = .ok (.getfield 68, 3) := by decide +kernel
theorem dX10_about_114 : decode cX10_about 114 = .ok (.ireturn, 1) := by decide +kernel
theorem dX10_about_115 : decode cX10_about 115 = .ok (.iload_n 1, 1) := by decide +kernel
theorem dX10_about_116 : decode cX10_about 116 = .ok (.bipush 10, 2) := by decide +kernel
theorem dX10_about_118 : decode cX10_about 118 = .ok (.bipush 13, 2) := by decide +kernel
theorem dX10_about_120 : decode cX10_about 120 = .ok (.invokestatic 122, 3) := by decide +kernel
theorem dX10_about_123 : decode cX10_about 123 = .ok (.ifCond .eq 14, 3) := by decide +kernel
theorem dX10_about_126 : decode cX10_about 126 = .ok (.aload_n 0, 1) := by decide +kernel
theorem dX10_about_127 : decode cX10_about 127 = .ok (.iload_n 1, 1) := by decide +kernel
theorem dX10_about_128 : decode cX10_about 128 = .ok (.bipush 10, 2) := by decide +kernel
theorem dX10_about_130 : decode cX10_about 130 = .ok (.isub, 1) := by decide +kernel
theorem dX10_about_131 : decode cX10_about 131 = .ok (.invokevirtual 92, 3) := by decide +kernel
theorem dX10_about_134 : decode cX10_about 134 = .ok (.goto 4, 3) := by decide +kernel
theorem dX10_about_137 : decode cX10_about 137 = .ok (.iconst (-1), 1) := by decide +kernel
theorem dX10_about_138 : decode cX10_about 138 = .ok (.ireturn, 1) := by decide +kernel
theorem dX10_isWithin_0 : decode cX10_isWithin 0 = .ok (.iload_n 0, 1) := by decide +kernel
theorem dX10_isWithin_1 : decode cX10_isWithin 1 = .ok (.iload_n 1, 1) := by decide +kernel
theorem dX10_isWithin_2 : decode cX10_isWithin 2 = .ok (.if_icmp .lt 12, 3) := by decide +kernel
theorem dX10_isWithin_5 : decode cX10_isWithin 5 = .ok (.iload_n 0, 1) := by decide +kernel
theorem dX10_isWithin_6 : decode cX10_isWithin 6 = .ok (.iload_n 2, 1) := by decide +kernel
theorem dX10_isWithin_7 : decode cX10_isWithin 7 = .ok (.if_icmp .gt 7, 3) := by decide +kernel
theorem dX10_isWithin_10 : decode cX10_isWithin 10 = .ok (.iconst 1, 1) := by decide +kernel
theorem dX10_isWithin_11 : decode cX10_isWithin 11 = .ok (.goto 4, 3) := by decide +kernel
theorem dX10_isWithin_14 : decode cX10_isWithin 14 = .ok (.iconst 0, 1) := by decide +kernel
theorem dX10_isWithin_15 : decode cX10_isWithin 15 = .ok (.ireturn, 1) := by decide +kernel
theorem dX10_isTerm_0 : decode cX10_isTerm 0 = .ok (.iload_n 0, 1) := by decide +kernel
theorem dX10_isTerm_1 : decode cX10_isTerm 1 = .ok (.ifCond .lt 12, 3) := by decide +kernel
theorem dX10_isTerm_4 : decode cX10_isTerm 4 = .ok (.iload_n 0, 1) := by decide +kernel
theorem dX10_isTerm_5 : decode cX10_isTerm 5 = .ok (.iconst 4, 1) := by decide +kernel
theorem dX10_isTerm_6 : decode cX10_isTerm 6 = .ok (.if_icmp .ge 7, 3) := by decide +kernel
theorem dX10_isTerm_9 : decode cX10_isTerm 9 = .ok (.iconst 1, 1) := by decide +kernel
theorem dX10_isTerm_10 : decode cX10_isTerm 10 = .ok (.goto 4, 3) := by decide +kernel
theorem dX10_isTerm_13 : decode cX10_isTerm 13 = .ok (.iconst 0, 1) := by decide +kernel
theorem dX10_isTerm_14 : decode cX10_isTerm 14 = .ok (.ireturn, 1) := by decide +kernel
theorem dX10_gradesOf_0 : decode cX10_gradesOf 0 = .ok (.iload_n 1, 1) := by decide +kernel
theorem dX10_gradesOf_1 : decode cX10_gradesOf 1 = .ok (.invokestatic 78, 3) := by decide +kernel
theorem dX10_gradesOf_4 : decode cX10_gradesOf 4 = .ok (.ifCond .eq 12, 3) := by decide +kernel
theorem dX10_gradesOf_7 : decode cX10_gradesOf 7 = .ok (.aload_n 0, 1) := by decide +kernel
theorem dX10_gradesOf_8 : decode cX10_gradesOf 8 = .ok (.getfield 18, 3) := by decide +kernel
theorem dX10_gradesOf_11 : decode cX10_gradesOf 11 = .ok (.iload_n 1, 1) := by decide +kernel
theorem dX10_gradesOf_12 : decode cX10_gradesOf 12 = .ok (.aaload, 1) := by decide +kernel
theorem dX10_gradesOf_13 : decode cX10_gradesOf 13 = .ok (.goto 4, 3) := by decide +kernel
theorem dX10_gradesOf_16 : decode cX10_gradesOf 16 = .ok (.aconst_null, 1) := by decide +kernel
theorem dX10_gradesOf_17 : decode cX10_gradesOf 17 = .ok (.astore_n 2, 1) := by decide +kernel
theorem dX10_gradesOf_18 : decode cX10_gradesOf 18 = .ok (.aload_n 2, 1) := by decide +kernel
theorem dX10_gradesOf_19 : decode cX10_gradesOf 19 = .ok (.ifnonnull 7, 3) := by decide +kernel
theorem dX10_gradesOf_22 : decode cX10_gradesOf 22 = .ok (.iconst 0, 1) := by decide +kernel
theorem dX10_gradesOf_23 : decode cX10_gradesOf 23 = .ok (.goto 7, 3) := by decide +kernel
theorem dX10_gradesOf_26 : decode cX10_gradesOf 26 = .ok (.aload_n 2, 1) := by decide +kernel
theorem dX10_gradesOf_27 : decode cX10_gradesOf 27 = .ok (.getfield 253, 3) := by decide +kernel
theorem dX10_gradesOf_30 : decode cX10_gradesOf 30 = .ok (.ireturn, 1) := by decide +kernel
theorem dX10_findGrade_0 : decode cX10_findGrade 0 = .ok (.iload_n 1, 1) := by decide +kernel
theorem dX10_findGrade_1 : decode cX10_findGrade 1 = .ok (.invokestatic 78, 3) := by decide +kernel
theorem dX10_findGrade_4 : decode cX10_findGrade 4 = .ok (.ifCond .eq 12, 3) := by decide +kernel
theorem dX10_findGrade_7 : decode cX10_findGrade 7 = .ok (.aload_n 0, 1) := by decide +kernel
theorem dX10_findGrade_8 : decode cX10_findGrade 8 = .ok (.getfield 18, 3) := by decide +kernel
theorem dX10_findGrade_11 : decode cX10_findGrade 11 = .ok (.iload_n 1, 1) := by decide +kernel
theorem dX10_findGrade_12 : decode cX10_findGrade 12 = .ok (.aaload, 1) := by decide +kernel
theorem dX10_findGrade_13 : decode cX10_findGrade 13 = .ok (.goto 4, 3) := by decide +kernel
theorem dX10_findGrade_16 : decode cX10_findGrade 16 = .ok (.aconst_null, 1) := by decide +kernel
theorem dX10_findGrade_17 : decode cX10_findGrade 17 = .ok (.astore_n 3, 1) := by decide +kernel
theorem dX10_findGrade_18 : decode cX10_findGrade 18 = .ok (.aload_n 3, 1) := by decide +kernel
theorem dX10_findGrade_19 : decode cX10_findGrade 19 = .ok (.ifnonnull 7, 3) := by decide +kernel
theorem dX10_findGrade_22 : decode cX10_findGrade 22 = .ok (.aconst_null, 1) := by decide +kernel
theorem dX10_findGrade_23 : decode cX10_findGrade 23 = .ok (.goto 8, 3) := by decide +kernel
theorem dX10_findGrade_26 : decode cX10_findGrade 26 = .ok (.aload_n 3, 1) := by decide +kernel
theorem dX10_findGrade_27 : decode cX10_findGrade 27 = .ok (.iload_n 2, 1) := by decide +kernel
theorem dX10_findGrade_28 : decode cX10_findGrade 28 = .ok (.invokevirtual 256, 3) := by decide +kernel
theorem dX10_findGrade_31 : decode cX10_findGrade 31 = .ok (.areturn, 1) := by decide +kernel
theorem dX10_gradeOf_0 : decode cX10_gradeOf 0 = .ok (.aload_n 0, 1) := by decide +kernel
theorem dX10_gradeOf_1 : decode cX10_gradeOf 1 = .ok (.aload_n 0, 1) := by decide +kernel
theorem dX10_gradeOf_2 : decode cX10_gradeOf 2 = .ok (.getfield 32, 3) := by decide +kernel
theorem dX10_gradeOf_5 : decode cX10_gradeOf 5 = .ok (.getfield 260, 3) := by decide +kernel
theorem dX10_gradeOf_8 : decode cX10_gradeOf 8 = .ok (.iload_n 1, 1) := by decide +kernel
theorem dX10_gradeOf_9 : decode cX10_gradeOf 9 = .ok (.iaload, 1) := by decide +kernel
theorem dX10_gradeOf_10 : decode cX10_gradeOf 10 = .ok (.aload_n 0, 1) := by decide +kernel
theorem dX10_gradeOf_11 : decode cX10_gradeOf 11 = .ok (.getfield 32, 3) := by decide +kernel
theorem dX10_gradeOf_14 : decode cX10_gradeOf 14 = .ok (.getfield 263, 3) := by decide +kernel
theorem dX10_gradeOf_17 : decode cX10_gradeOf 17 = .ok (.iload_n 1, 1) := by decide +kernel
theorem dX10_gradeOf_18 : decode cX10_gradeOf 18 = .ok (.iaload, 1) := by decide +kernel
theorem dX10_gradeOf_19 : decode cX10_gradeOf 19 = .ok (.invokevirtual 99, 3) := by decide +kernel
theorem dX10_gradeOf_22 : decode cX10_gradeOf 22 = .ok (.areturn, 1) := by decide +kernel
theorem dX10_firstUnmet_0 : decode cX10_firstUnmet 0 = .ok (.aload_n 0, 1) := by decide +kernel
theorem dX10_firstUnmet_1 : decode cX10_firstUnmet 1 = .ok (.getfield 18, 3) := by decide +kernel
theorem dX10_firstUnmet_4 : decode cX10_firstUnmet 4 = .ok (.aload_n 0, 1) := by decide +kernel
theorem dX10_firstUnmet_5 : decode cX10_firstUnmet 5 = .ok (.getfield 32, 3) := by decide +kernel
theorem dX10_firstUnmet_8 : decode cX10_firstUnmet 8 = .ok (.getfield 260, 3) := by decide +kernel
theorem dX10_firstUnmet_11 : decode cX10_firstUnmet 11 = .ok (.iload_n 1, 1) := by decide +kernel
theorem dX10_firstUnmet_12 : decode cX10_firstUnmet 12 = .ok (.iaload, 1) := by decide +kernel
theorem dX10_firstUnmet_13 : decode cX10_firstUnmet 13 = .ok (.aaload, 1) := by decide +kernel
theorem dX10_firstUnmet_14 : decode cX10_firstUnmet 14 = .ok (.astore_n 2, 1) := by decide +kernel
theorem dX10_firstUnmet_15 : decode cX10_firstUnmet 15 = .ok (.aload_n 0, 1) := by decide +kernel
theorem dX10_firstUnmet_16 : decode cX10_firstUnmet 16 = .ok (.iload_n 1, 1) := by decide +kernel
theorem dX10_firstUnmet_17 : decode cX10_firstUnmet 17 = .ok (.invokevirtual 266, 3) := by decide +kernel
theorem dX10_firstUnmet_20 : decode cX10_firstUnmet 20 = .ok (.astore_n 3, 1) := by decide +kernel
theorem dX10_firstUnmet_21 : decode cX10_firstUnmet 21 = .ok (.aload_n 2, 1) := by decide +kernel
theorem dX10_firstUnmet_22 : decode cX10_firstUnmet 22 = .ok (.ifnull 7, 3) := by decide +kernel
theorem dX10_firstUnmet_25 : decode cX10_firstUnmet 25 = .ok (.aload_n 3, 1) := by decide +kernel
theorem dX10_firstUnmet_26 : decode cX10_firstUnmet 26 = .ok (.ifnonnull 6, 3) := by decide +kernel
theorem dX10_firstUnmet_29 : decode cX10_firstUnmet 29 = .ok (.bipush (-2), 2) := by decide +kernel
theorem dX10_firstUnmet_31 : decode cX10_firstUnmet 31 = .ok (.ireturn, 1) := by decide +kernel
theorem dX10_firstUnmet_32 : decode cX10_firstUnmet 32 = .ok (.iconst 0, 1) := by decide +kernel
theorem dX10_firstUnmet_33 : decode cX10_firstUnmet 33 = .ok (.istore 4, 2) := by decide +kernel
theorem dX10_firstUnmet_35 : decode cX10_firstUnmet 35 = .ok (.iload 4, 2) := by decide +kernel
theorem dX10_firstUnmet_37 : decode cX10_firstUnmet 37 = .ok (.aload_n 3, 1) := by decide +kernel
theorem dX10_firstUnmet_38 : decode cX10_firstUnmet 38 = .ok (.getfield 115, 3) := by decide +kernel
theorem dX10_firstUnmet_41 : decode cX10_firstUnmet 41 = .ok (.if_icmp .ge 36, 3) := by decide +kernel
theorem dX10_firstUnmet_44 : decode cX10_firstUnmet 44 = .ok (.aload_n 0, 1) := by decide +kernel
theorem dX10_firstUnmet_45 : decode cX10_firstUnmet 45 = .ok (.getfield 25, 3) := by decide +kernel
theorem dX10_firstUnmet_48 : decode cX10_firstUnmet 48 = .ok (.aload_n 2, 1) := by decide +kernel
theorem dX10_firstUnmet_49 : decode cX10_firstUnmet 49 = .ok (.aload_n 3, 1) := by decide +kernel
theorem dX10_firstUnmet_50 : decode cX10_firstUnmet 50 = .ok (.aload_n 0, 1) := by decide +kernel
theorem dX10_firstUnmet_51 : decode cX10_firstUnmet 51 = .ok (.getfield 32, 3) := by decide +kernel
theorem dX10_firstUnmet_54 : decode cX10_firstUnmet 54 = .ok (.iload_n 1, 1) := by decide +kernel
theorem dX10_firstUnmet_55 : decode cX10_firstUnmet 55 = .ok (.aload_n 3, 1) := by decide +kernel
theorem dX10_firstUnmet_56 : decode cX10_firstUnmet 56 = .ok (.getfield 269, 3) := by decide +kernel
theorem dX10_firstUnmet_59 : decode cX10_firstUnmet 59 = .ok (.iload 4, 2) := by decide +kernel
theorem dX10_firstUnmet_61 : decode cX10_firstUnmet 61 = .ok (.iaload, 1) := by decide +kernel
theorem dX10_firstUnmet_62 : decode cX10_firstUnmet 62 = .ok (.invokevirtual 272, 3) := by decide +kernel
theorem dX10_firstUnmet_65 : decode cX10_firstUnmet 65 = .ok (.ifCond .ne 6, 3) := by decide +kernel
theorem dX10_firstUnmet_68 : decode cX10_firstUnmet 68 = .ok (.iload 4, 2) := by decide +kernel
theorem dX10_firstUnmet_70 : decode cX10_firstUnmet 70 = .ok (.ireturn, 1) := by decide +kernel
theorem dX10_firstUnmet_71 : decode cX10_firstUnmet 71 = .ok (.iinc 4 1, 3) := by decide +kernel
theorem dX10_firstUnmet_74 : decode cX10_firstUnmet 74 = .ok (.goto (-39), 3) := by decide +kernel
theorem dX10_firstUnmet_77 : decode cX10_firstUnmet 77 = .ok (.iconst (-1), 1) := by decide +kernel
theorem dX10_firstUnmet_78 : decode cX10_firstUnmet 78 = .ok (.ireturn, 1) := by decide +kernel
theorem dX10_resultOf_0 : decode cX10_resultOf 0 = .ok (.aload_n 0, 1) := by decide +kernel
theorem dX10_resultOf_1 : decode cX10_resultOf 1 = .ok (.getfield 18, 3) := by decide +kernel
theorem dX10_resultOf_4 : decode cX10_resultOf 4 = .ok (.aload_n 0, 1) := by decide +kernel
theorem dX10_resultOf_5 : decode cX10_resultOf 5 = .ok (.getfield 32, 3) := by decide +kernel
theorem dX10_resultOf_8 : decode cX10_resultOf 8 = .ok (.getfield 260, 3) := by decide +kernel
theorem dX10_resultOf_11 : decode cX10_resultOf 11 = .ok (.iload_n 1, 1) := by decide +kernel
theorem dX10_resultOf_12 : decode cX10_resultOf 12 = .ok (.iaload, 1) := by decide +kernel
theorem dX10_resultOf_13 : decode cX10_resultOf 13 = .ok (.aaload, 1) := by decide +kernel
theorem dX10_resultOf_14 : decode cX10_resultOf 14 = .ok (.astore_n 3, 1) := by decide +kernel
theorem dX10_resultOf_15 : decode cX10_resultOf 15 = .ok (.aload_n 0, 1) := by decide +kernel
theorem dX10_resultOf_16 : decode cX10_resultOf 16 = .ok (.iload_n 1, 1) := by decide +kernel
theorem dX10_resultOf_17 : decode cX10_resultOf 17 = .ok (.invokevirtual 266, 3) := by decide +kernel
theorem dX10_resultOf_20 : decode cX10_resultOf 20 = .ok (.astore 4, 2) := by decide +kernel
theorem dX10_resultOf_22 : decode cX10_resultOf 22 = .ok (.aload_n 3, 1) := by decide +kernel
theorem dX10_resultOf_23 : decode cX10_resultOf 23 = .ok (.ifnull 17, 3) := by decide +kernel
theorem dX10_resultOf_26 : decode cX10_resultOf 26 = .ok (.aload 4, 2) := by decide +kernel
theorem dX10_resultOf_28 : decode cX10_resultOf 28 = .ok (.ifnull 12, 3) := by decide +kernel
theorem dX10_resultOf_31 : decode cX10_resultOf 31 = .ok (.aload_n 0, 1) := by decide +kernel
theorem dX10_resultOf_32 : decode cX10_resultOf 32 = .ok (.iload_n 1, 1) := by decide +kernel
theorem dX10_resultOf_33 : decode cX10_resultOf 33 = .ok (.invokevirtual 144, 3) := by decide +kernel
theorem dX10_resultOf_36 : decode cX10_resultOf 36 = .ok (.iconst (-1), 1) := by decide +kernel
theorem dX10_resultOf_37 : decode cX10_resultOf 37 = .ok (.if_icmp .eq 5, 3) := by decide +kernel
theorem dX10_resultOf_40 : decode cX10_resultOf 40 = .ok (.iconst (-1), 1) := by decide +kernel
theorem dX10_resultOf_41 : decode cX10_resultOf 41 = .ok (.ireturn, 1) := by decide +kernel
theorem dX10_resultOf_42 : decode cX10_resultOf 42 = .ok (.iconst 0, 1) := by decide +kernel
theorem dX10_resultOf_43 : decode cX10_resultOf 43 = .ok (.istore 5, 2) := by decide +kernel
theorem dX10_resultOf_45 : decode cX10_resultOf 45 = .ok (.iload 5, 2) := by decide +kernel
theorem dX10_resultOf_47 : decode cX10_resultOf 47 = .ok (.aload 4, 2) := by decide +kernel
theorem dX10_resultOf_49 : decode cX10_resultOf 49 = .ok (.getfield 103, 3) := by decide +kernel
theorem dX10_resultOf_52 : decode cX10_resultOf 52 = .ok (.if_icmp .ge 42, 3) := by decide +kernel
theorem dX10_resultOf_55 : decode cX10_resultOf 55 = .ok (.aload_n 0, 1) := by decide +kernel
theorem dX10_resultOf_56 : decode cX10_resultOf 56 = .ok (.getfield 53, 3) := by decide +kernel
theorem dX10_resultOf_59 : decode cX10_resultOf 59 = .ok (.iload_n 1, 1) := by decide +kernel
theorem dX10_resultOf_60 : decode cX10_resultOf 60 = .ok (.iload 5, 2) := by decide +kernel
theorem dX10_resultOf_62 : decode cX10_resultOf 62 = .ok (.iload_n 2, 1) := by decide +kernel
theorem dX10_resultOf_63 : decode cX10_resultOf 63 = .ok (.invokevirtual 216, 3) := by decide +kernel
theorem dX10_resultOf_66 : decode cX10_resultOf 66 = .ok (.istore 6, 2) := by decide +kernel
theorem dX10_resultOf_68 : decode cX10_resultOf 68 = .ok (.iload 6, 2) := by decide +kernel
theorem dX10_resultOf_70 : decode cX10_resultOf 70 = .ok (.iconst (-1), 1) := by decide +kernel
theorem dX10_resultOf_71 : decode cX10_resultOf 71 = .ok (.if_icmp .ne 5, 3) := by decide +kernel
theorem dX10_resultOf_74 : decode cX10_resultOf 74 = .ok (.iconst (-1), 1) := by decide +kernel
theorem dX10_resultOf_75 : decode cX10_resultOf 75 = .ok (.ireturn, 1) := by decide +kernel
theorem dX10_resultOf_76 : decode cX10_resultOf 76 = .ok (.aload_n 0, 1) := by decide +kernel
theorem dX10_resultOf_77 : decode cX10_resultOf 77 = .ok (.getfield 25, 3) := by decide +kernel
theorem dX10_resultOf_80 : decode cX10_resultOf 80 = .ok (.getfield 276, 3) := by decide +kernel
theorem dX10_resultOf_83 : decode cX10_resultOf 83 = .ok (.iload 5, 2) := by decide +kernel
theorem dX10_resultOf_85 : decode cX10_resultOf 85 = .ok (.iload 6, 2) := by decide +kernel
theorem dX10_resultOf_87 : decode cX10_resultOf 87 = .ok (.iastore, 1) := by decide +kernel
theorem dX10_resultOf_88 : decode cX10_resultOf 88 = .ok (.iinc 5 1, 3) := by decide +kernel
theorem dX10_resultOf_91 : decode cX10_resultOf 91 = .ok (.goto (-46), 3) := by decide +kernel
theorem dX10_resultOf_94 : decode cX10_resultOf 94 = .ok (.aload 4, 2) := by decide +kernel
theorem dX10_resultOf_96 : decode cX10_resultOf 96 = .ok (.getfield 279, 3) := by decide +kernel
theorem dX10_resultOf_99 : decode cX10_resultOf 99 = .ok (.iconst (-1), 1) := by decide +kernel
theorem dX10_resultOf_100 : decode cX10_resultOf 100 = .ok (.if_icmp .eq 28, 3) := by decide +kernel
theorem dX10_resultOf_103 : decode cX10_resultOf 103 = .ok (.aload_n 0, 1) := by decide +kernel
theorem dX10_resultOf_104 : decode cX10_resultOf 104 = .ok (.getfield 25, 3) := by decide +kernel
theorem dX10_resultOf_107 : decode cX10_resultOf 107 = .ok (.aload_n 3, 1) := by decide +kernel
theorem dX10_resultOf_108 : decode cX10_resultOf 108 = .ok (.aload 4, 2) := by decide +kernel
theorem dX10_resultOf_110 : decode cX10_resultOf 110 = .ok (.aload_n 0, 1) := by decide +kernel
theorem dX10_resultOf_111 : decode cX10_resultOf 111 = .ok (.getfield 32, 3) := by decide +kernel
theorem dX10_resultOf_114 : decode cX10_resultOf 114 = .ok (.iload_n 1, 1) := by decide +kernel
theorem dX10_resultOf_115 : decode cX10_resultOf 115 = .ok (.aload 4, 2) := by decide +kernel
theorem dX10_resultOf_117 : decode cX10_resultOf 117 = .ok (.getfield 279, 3) := by decide +kernel
theorem dX10_resultOf_120 : decode cX10_resultOf 120 = .ok (.invokevirtual 272, 3) := by decide +kernel
theorem dX10_resultOf_123 : decode cX10_resultOf 123 = .ok (.ifCond .ne 5, 3) := by decide +kernel
theorem dX10_resultOf_126 : decode cX10_resultOf 126 = .ok (.iconst 0, 1) := by decide +kernel
theorem dX10_resultOf_127 : decode cX10_resultOf 127 = .ok (.ireturn, 1) := by decide +kernel
theorem dX10_resultOf_128 : decode cX10_resultOf 128 = .ok (.aload 4, 2) := by decide +kernel
theorem dX10_resultOf_130 : decode cX10_resultOf 130 = .ok (.getfield 282, 3) := by decide +kernel
theorem dX10_resultOf_133 : decode cX10_resultOf 133 = .ok (.iconst (-1), 1) := by decide +kernel
theorem dX10_resultOf_134 : decode cX10_resultOf 134 = .ok (.if_icmp .eq 30, 3) := by decide +kernel
theorem dX10_resultOf_137 : decode cX10_resultOf 137 = .ok (.aload_n 0, 1) := by decide +kernel
theorem dX10_resultOf_138 : decode cX10_resultOf 138 = .ok (.getfield 25, 3) := by decide +kernel
theorem dX10_resultOf_141 : decode cX10_resultOf 141 = .ok (.aload_n 3, 1) := by decide +kernel
theorem dX10_resultOf_142 : decode cX10_resultOf 142 = .ok (.aload 4, 2) := by decide +kernel
theorem dX10_resultOf_144 : decode cX10_resultOf 144 = .ok (.aload_n 0, 1) := by decide +kernel
theorem dX10_resultOf_145 : decode cX10_resultOf 145 = .ok (.getfield 32, 3) := by decide +kernel
theorem dX10_resultOf_148 : decode cX10_resultOf 148 = .ok (.iload_n 1, 1) := by decide +kernel
theorem dX10_resultOf_149 : decode cX10_resultOf 149 = .ok (.aload 4, 2) := by decide +kernel
theorem dX10_resultOf_151 : decode cX10_resultOf 151 = .ok (.getfield 282, 3) := by decide +kernel
theorem dX10_resultOf_154 : decode cX10_resultOf 154 = .ok (.invokevirtual 272, 3) := by decide +kernel
theorem dX10_resultOf_157 : decode cX10_resultOf 157 = .ok (.ifCond .eq 7, 3) := by decide +kernel
theorem dX10_resultOf_160 : decode cX10_resultOf 160 = .ok (.iconst 1, 1) := by decide +kernel
theorem dX10_resultOf_161 : decode cX10_resultOf 161 = .ok (.goto 4, 3) := by decide +kernel
theorem dX10_resultOf_164 : decode cX10_resultOf 164 = .ok (.iconst 0, 1) := by decide +kernel
theorem dX10_resultOf_165 : decode cX10_resultOf 165 = .ok (.istore 5, 2) := by decide +kernel
theorem dX10_resultOf_167 : decode cX10_resultOf 167 = .ok (.iload 5, 2) := by decide +kernel
theorem dX10_resultOf_169 : decode cX10_resultOf 169 = .ok (.ifCond .eq 7, 3) := by decide +kernel
theorem dX10_resultOf_172 : decode cX10_resultOf 172 = .ok (.iconst 2, 1) := by decide +kernel
theorem dX10_resultOf_173 : decode cX10_resultOf 173 = .ok (.goto 4, 3) := by decide +kernel
theorem dX10_resultOf_176 : decode cX10_resultOf 176 = .ok (.iconst 1, 1) := by decide +kernel
theorem dX10_resultOf_177 : decode cX10_resultOf 177 = .ok (.ireturn, 1) := by decide +kernel
theorem dX10_canBeMarked_0 : decode cX10_canBeMarked 0 = .ok (.aload_n 0, 1) := by decide +kernel
theorem dX10_canBeMarked_1 : decode cX10_canBeMarked 1 = .ok (.getfield 32, 3) := by decide +kernel
theorem dX10_canBeMarked_4 : decode cX10_canBeMarked 4 = .ok (.iload_n 1, 1) := by decide +kernel
theorem dX10_canBeMarked_5 : decode cX10_canBeMarked 5 = .ok (.invokevirtual 133, 3) := by decide +kernel
theorem dX10_canBeMarked_8 : decode cX10_canBeMarked 8 = .ok (.ifCond .eq 11, 3) := by decide +kernel
theorem dX10_canBeMarked_11 : decode cX10_canBeMarked 11 = .ok (.aload_n 0, 1) := by decide +kernel
theorem dX10_canBeMarked_12 : decode cX10_canBeMarked 12 = .ok (.iload_n 1, 1) := by decide +kernel
theorem dX10_canBeMarked_13 : decode cX10_canBeMarked 13 = .ok (.invokevirtual 266, 3) := by decide +kernel
theorem dX10_canBeMarked_16 : decode cX10_canBeMarked 16 = .ok (.goto 4, 3) := by decide +kernel
theorem dX10_canBeMarked_19 : decode cX10_canBeMarked 19 = .ok (.aconst_null, 1) := by decide +kernel
theorem dX10_canBeMarked_20 : decode cX10_canBeMarked 20 = .ok (.astore 4, 2) := by decide +kernel
theorem dX10_canBeMarked_22 : decode cX10_canBeMarked 22 = .ok (.aload 4, 2) := by decide +kernel
theorem dX10_canBeMarked_24 : decode cX10_canBeMarked 24 = .ok (.ifnull 35, 3) := by decide +kernel
theorem dX10_canBeMarked_27 : decode cX10_canBeMarked 27 = .ok (.iload_n 2, 1) := by decide +kernel
theorem dX10_canBeMarked_28 : decode cX10_canBeMarked 28 = .ok (.ifCond .lt 31, 3) := by decide +kernel
theorem dX10_canBeMarked_31 : decode cX10_canBeMarked 31 = .ok (.iload_n 2, 1) := by decide +kernel
theorem dX10_canBeMarked_32 : decode cX10_canBeMarked 32 = .ok (.aload 4, 2) := by decide +kernel
theorem dX10_canBeMarked_34 : decode cX10_canBeMarked 34 = .ok (.getfield 103, 3) := by decide +kernel
theorem dX10_canBeMarked_37 : decode cX10_canBeMarked 37 = .ok (.if_icmp .ge 22, 3) := by decide +kernel
theorem dX10_canBeMarked_40 : decode cX10_canBeMarked 40 = .ok (.iload_n 3, 1) := by decide +kernel
theorem dX10_canBeMarked_41 : decode cX10_canBeMarked 41 = .ok (.iconst 0, 1) := by decide +kernel
theorem dX10_canBeMarked_42 : decode cX10_canBeMarked 42 = .ok (.aload 4, 2) := by decide +kernel
theorem dX10_canBeMarked_44 : decode cX10_canBeMarked 44 = .ok (.getfield 108, 3) := by decide +kernel
theorem dX10_canBeMarked_47 : decode cX10_canBeMarked 47 = .ok (.iload_n 2, 1) := by decide +kernel
theorem dX10_canBeMarked_48 : decode cX10_canBeMarked 48 = .ok (.iaload, 1) := by decide +kernel
theorem dX10_canBeMarked_49 : decode cX10_canBeMarked 49 = .ok (.invokestatic 122, 3) := by decide +kernel
theorem dX10_canBeMarked_52 : decode cX10_canBeMarked 52 = .ok (.ifCond .eq 7, 3) := by decide +kernel
theorem dX10_canBeMarked_55 : decode cX10_canBeMarked 55 = .ok (.iconst 1, 1) := by decide +kernel
theorem dX10_canBeMarked_56 : decode cX10_canBeMarked 56 = .ok (.goto 4, 3) := by decide +kernel
theorem dX10_canBeMarked_59 : decode cX10_canBeMarked 59 = .ok (.iconst 0, 1) := by decide +kernel
theorem dX10_canBeMarked_60 : decode cX10_canBeMarked 60 = .ok (.ireturn, 1) := by decide +kernel
theorem dX10_minutesOf_0 : decode cX10_minutesOf 0 = .ok (.aload_n 0, 1) := by decide +kernel
theorem dX10_minutesOf_1 : decode cX10_minutesOf 1 = .ok (.iload_n 1, 1) := by decide +kernel
theorem dX10_minutesOf_2 : decode cX10_minutesOf 2 = .ok (.invokevirtual 266, 3) := by decide +kernel
theorem dX10_minutesOf_5 : decode cX10_minutesOf 5 = .ok (.astore_n 2, 1) := by decide +kernel
theorem dX10_minutesOf_6 : decode cX10_minutesOf 6 = .ok (.aload_n 2, 1) := by decide +kernel
theorem dX10_minutesOf_7 : decode cX10_minutesOf 7 = .ok (.ifnonnull 8, 3) := by decide +kernel
theorem dX10_minutesOf_10 : decode cX10_minutesOf 10 = .ok (.bipush 10, 2) := by decide +kernel
theorem dX10_minutesOf_12 : decode cX10_minutesOf 12 = .ok (.goto 7, 3) := by decide +kernel
theorem dX10_minutesOf_15 : decode cX10_minutesOf 15 = .ok (.aload_n 2, 1) := by decide +kernel
theorem dX10_minutesOf_16 : decode cX10_minutesOf 16 = .ok (.invokevirtual 118, 3) := by decide +kernel
theorem dX10_minutesOf_19 : decode cX10_minutesOf 19 = .ok (.ireturn, 1) := by decide +kernel
theorem dX10_minutesWith_0 : decode cX10_minutesWith 0 = .ok (.iconst 0, 1) := by decide +kernel
theorem dX10_minutesWith_1 : decode cX10_minutesWith 1 = .ok (.istore_n 3, 1) := by decide +kernel
theorem dX10_minutesWith_2 : decode cX10_minutesWith 2 = .ok (.iconst 0, 1) := by decide +kernel
theorem dX10_minutesWith_3 : decode cX10_minutesWith 3 = .ok (.istore 4, 2) := by decide +kernel
theorem dX10_minutesWith_5 : decode cX10_minutesWith 5 = .ok (.iload 4, 2) := by decide +kernel
theorem dX10_minutesWith_7 : decode cX10_minutesWith 7 = .ok (.aload_n 0, 1) := by decide +kernel
theorem dX10_minutesWith_8 : decode cX10_minutesWith 8 = .ok (.getfield 32, 3) := by decide +kernel
theorem dX10_minutesWith_11 : decode cX10_minutesWith 11 = .ok (.getfield 245, 3) := by decide +kernel
theorem dX10_minutesWith_14 : decode cX10_minutesWith 14 = .ok (.if_icmp .ge 38, 3) := by decide +kernel
theorem dX10_minutesWith_17 : decode cX10_minutesWith 17 = .ok (.aload_n 0, 1) := by decide +kernel
theorem dX10_minutesWith_18 : decode cX10_minutesWith 18 = .ok (.getfield 32, 3) := by decide +kernel
theorem dX10_minutesWith_21 : decode cX10_minutesWith 21 = .ok (.getfield 170, 3) := by decide +kernel
theorem dX10_minutesWith_24 : decode cX10_minutesWith 24 = .ok (.iload 4, 2) := by decide +kernel
theorem dX10_minutesWith_26 : decode cX10_minutesWith 26 = .ok (.iaload, 1) := by decide +kernel
theorem dX10_minutesWith_27 : decode cX10_minutesWith 27 = .ok (.iload_n 1, 1) := by decide +kernel
theorem dX10_minutesWith_28 : decode cX10_minutesWith 28 = .ok (.if_icmp .eq 9, 3) := by decide +kernel
theorem dX10_minutesWith_31 : decode cX10_minutesWith 31 = .ok (.iload 4, 2) := by decide +kernel
theorem dX10_minutesWith_33 : decode cX10_minutesWith 33 = .ok (.iload_n 2, 1) := by decide +kernel
theorem dX10_minutesWith_34 : decode cX10_minutesWith 34 = .ok (.if_icmp .ne 12, 3) := by decide +kernel
theorem dX10_minutesWith_37 : decode cX10_minutesWith 37 = .ok (.iload_n 3, 1) := by decide +kernel
theorem dX10_minutesWith_38 : decode cX10_minutesWith 38 = .ok (.aload_n 0, 1) := by decide +kernel
theorem dX10_minutesWith_39 : decode cX10_minutesWith 39 = .ok (.iload 4, 2) := by decide +kernel
theorem dX10_minutesWith_41 : decode cX10_minutesWith 41 = .ok (.invokevirtual 285, 3) := by decide +kernel
theorem dX10_minutesWith_44 : decode cX10_minutesWith 44 = .ok (.iadd, 1) := by decide +kernel
theorem dX10_minutesWith_45 : decode cX10_minutesWith 45 = .ok (.istore_n 3, 1) := by decide +kernel
theorem dX10_minutesWith_46 : decode cX10_minutesWith 46 = .ok (.iinc 4 1, 3) := by decide +kernel
theorem dX10_minutesWith_49 : decode cX10_minutesWith 49 = .ok (.goto (-44), 3) := by decide +kernel
theorem dX10_minutesWith_52 : decode cX10_minutesWith 52 = .ok (.iload_n 3, 1) := by decide +kernel
theorem dX10_minutesWith_53 : decode cX10_minutesWith 53 = .ok (.ireturn, 1) := by decide +kernel
theorem dX10_canBeTaken_0 : decode cX10_canBeTaken 0 = .ok (.iconst 0, 1) := by decide +kernel
theorem dX10_canBeTaken_1 : decode cX10_canBeTaken 1 = .ok (.istore_n 2, 1) := by decide +kernel
theorem dX10_canBeTaken_2 : decode cX10_canBeTaken 2 = .ok (.iload_n 2, 1) := by decide +kernel
theorem dX10_canBeTaken_3 : decode cX10_canBeTaken 3 = .ok (.aload_n 0, 1) := by decide +kernel
theorem dX10_canBeTaken_4 : decode cX10_canBeTaken 4 = .ok (.getfield 39, 3) := by decide +kernel
theorem dX10_canBeTaken_7 : decode cX10_canBeTaken 7 = .ok (.getfield 188, 3) := by decide +kernel
theorem dX10_canBeTaken_10 : decode cX10_canBeTaken 10 = .ok (.if_icmp .ge 20, 3) := by decide +kernel
theorem dX10_canBeTaken_13 : decode cX10_canBeTaken 13 = .ok (.aload_n 0, 1) := by decide +kernel
theorem dX10_canBeTaken_14 : decode cX10_canBeTaken 14 = .ok (.iload_n 2, 1) := by decide +kernel
theorem dX10_canBeTaken_15 : decode cX10_canBeTaken 15 = .ok (.iload_n 1, 1) := by decide +kernel
theorem dX10_canBeTaken_16 : decode cX10_canBeTaken 16 = .ok (.invokevirtual 182, 3) := by decide +kernel
theorem dX10_canBeTaken_19 : decode cX10_canBeTaken 19 = .ok (.ifCond .eq 5, 3) := by decide +kernel
theorem dX10_canBeTaken_22 : decode cX10_canBeTaken 22 = .ok (.iconst 1, 1) := by decide +kernel
theorem dX10_canBeTaken_23 : decode cX10_canBeTaken 23 = .ok (.ireturn, 1) := by decide +kernel
theorem dX10_canBeTaken_24 : decode cX10_canBeTaken 24 = .ok (.iinc 2 1, 3) := by decide +kernel
theorem dX10_canBeTaken_27 : decode cX10_canBeTaken 27 = .ok (.goto (-25), 3) := by decide +kernel
theorem dX10_canBeTaken_30 : decode cX10_canBeTaken 30 = .ok (.iconst 0, 1) := by decide +kernel
theorem dX10_canBeTaken_31 : decode cX10_canBeTaken 31 = .ok (.ireturn, 1) := by decide +kernel
theorem dX10_mayTake_0 : decode cX10_mayTake 0 = .ok (.iconst 0, 1) := by decide +kernel
theorem dX10_mayTake_1 : decode cX10_mayTake 1 = .ok (.istore_n 3, 1) := by decide +kernel
theorem dX10_mayTake_2 : decode cX10_mayTake 2 = .ok (.iload_n 3, 1) := by decide +kernel
theorem dX10_mayTake_3 : decode cX10_mayTake 3 = .ok (.aload_n 0, 1) := by decide +kernel
theorem dX10_mayTake_4 : decode cX10_mayTake 4 = .ok (.getfield 32, 3) := by decide +kernel
theorem dX10_mayTake_7 : decode cX10_mayTake 7 = .ok (.getfield 245, 3) := by decide +kernel
theorem dX10_mayTake_10 : decode cX10_mayTake 10 = .ok (.if_icmp .ge 33, 3) := by decide +kernel
theorem dX10_mayTake_13 : decode cX10_mayTake 13 = .ok (.aload_n 0, 1) := by decide +kernel
theorem dX10_mayTake_14 : decode cX10_mayTake 14 = .ok (.getfield 32, 3) := by decide +kernel
theorem dX10_mayTake_17 : decode cX10_mayTake 17 = .ok (.getfield 170, 3) := by decide +kernel
theorem dX10_mayTake_20 : decode cX10_mayTake 20 = .ok (.iload_n 3, 1) := by decide +kernel
theorem dX10_mayTake_21 : decode cX10_mayTake 21 = .ok (.iaload, 1) := by decide +kernel
theorem dX10_mayTake_22 : decode cX10_mayTake 22 = .ok (.iload_n 2, 1) := by decide +kernel
theorem dX10_mayTake_23 : decode cX10_mayTake 23 = .ok (.if_icmp .ne 14, 3) := by decide +kernel
theorem dX10_mayTake_26 : decode cX10_mayTake 26 = .ok (.aload_n 0, 1) := by decide +kernel
theorem dX10_mayTake_27 : decode cX10_mayTake 27 = .ok (.iload_n 1, 1) := by decide +kernel
theorem dX10_mayTake_28 : decode cX10_mayTake 28 = .ok (.iload_n 3, 1) := by decide +kernel
theorem dX10_mayTake_29 : decode cX10_mayTake 29 = .ok (.invokevirtual 288, 3) := by decide +kernel
theorem dX10_mayTake_32 : decode cX10_mayTake 32 = .ok (.ifCond .ne 5, 3) := by decide +kernel
theorem dX10_mayTake_35 : decode cX10_mayTake 35 = .ok (.iconst 0, 1) := by decide +kernel
theorem dX10_mayTake_36 : decode cX10_mayTake 36 = .ok (.ireturn, 1) := by decide +kernel
theorem dX10_mayTake_37 : decode cX10_mayTake 37 = .ok (.iinc 3 1, 3) := by decide +kernel
theorem dX10_mayTake_40 : decode cX10_mayTake 40 = .ok (.goto (-38), 3) := by decide +kernel
theorem dX10_mayTake_43 : decode cX10_mayTake 43 = .ok (.iconst 1, 1) := by decide +kernel
theorem dX10_mayTake_44 : decode cX10_mayTake 44 = .ok (.ireturn, 1) := by decide +kernel
theorem dX10_mayHear_0 : decode cX10_mayHear 0 = .ok (.aload_n 0, 1) := by decide +kernel
theorem dX10_mayHear_1 : decode cX10_mayHear 1 = .ok (.getfield 39, 3) := by decide +kernel
theorem dX10_mayHear_4 : decode cX10_mayHear 4 = .ok (.iload_n 1, 1) := by decide +kernel
theorem dX10_mayHear_5 : decode cX10_mayHear 5 = .ok (.aload_n 0, 1) := by decide +kernel
theorem dX10_mayHear_6 : decode cX10_mayHear 6 = .ok (.getfield 32, 3) := by decide +kernel
theorem dX10_mayHear_9 : decode cX10_mayHear 9 = .ok (.getfield 291, 3) := by decide +kernel
theorem dX10_mayHear_12 : decode cX10_mayHear 12 = .ok (.iload_n 2, 1) := by decide +kernel
theorem dX10_mayHear_13 : decode cX10_mayHear 13 = .ok (.iaload, 1) := by decide +kernel
theorem dX10_mayHear_14 : decode cX10_mayHear 14 = .ok (.invokevirtual 294, 3) := by decide +kernel
theorem dX10_mayHear_17 : decode cX10_mayHear 17 = .ok (.ifCond .eq 29, 3) := by decide +kernel
theorem dX10_mayHear_20 : decode cX10_mayHear 20 = .ok (.aload_n 0, 1) := by decide +kernel
theorem dX10_mayHear_21 : decode cX10_mayHear 21 = .ok (.getfield 32, 3) := by decide +kernel
theorem dX10_mayHear_24 : decode cX10_mayHear 24 = .ok (.getfield 297, 3) := by decide +kernel
theorem dX10_mayHear_27 : decode cX10_mayHear 27 = .ok (.iload_n 2, 1) := by decide +kernel
theorem dX10_mayHear_28 : decode cX10_mayHear 28 = .ok (.iaload, 1) := by decide +kernel
theorem dX10_mayHear_29 : decode cX10_mayHear 29 = .ok (.iload_n 1, 1) := by decide +kernel
theorem dX10_mayHear_30 : decode cX10_mayHear 30 = .ok (.if_icmp .eq 16, 3) := by decide +kernel
theorem dX10_mayHear_33 : decode cX10_mayHear 33 = .ok (.aload_n 0, 1) := by decide +kernel
theorem dX10_mayHear_34 : decode cX10_mayHear 34 = .ok (.iload_n 1, 1) := by decide +kernel
theorem dX10_mayHear_35 : decode cX10_mayHear 35 = .ok (.iload_n 2, 1) := by decide +kernel
theorem dX10_mayHear_36 : decode cX10_mayHear 36 = .ok (.invokevirtual 300, 3) := by decide +kernel
theorem dX10_mayHear_39 : decode cX10_mayHear 39 = .ok (.ifCond .ne 7, 3) := by decide +kernel
theorem dX10_mayHear_42 : decode cX10_mayHear 42 = .ok (.iconst 1, 1) := by decide +kernel
theorem dX10_mayHear_43 : decode cX10_mayHear 43 = .ok (.goto 4, 3) := by decide +kernel
theorem dX10_mayHear_46 : decode cX10_mayHear 46 = .ok (.iconst 0, 1) := by decide +kernel
theorem dX10_mayHear_47 : decode cX10_mayHear 47 = .ok (.ireturn, 1) := by decide +kernel
theorem dX10_heardElsewhere_0 : decode cX10_heardElsewhere 0 = .ok (.iconst 0, 1) := by decide +kernel
theorem dX10_heardElsewhere_1 : decode cX10_heardElsewhere 1 = .ok (.istore_n 3, 1) := by decide +kernel
theorem dX10_heardElsewhere_2 : decode cX10_heardElsewhere 2 = .ok (.iload_n 3, 1) := by decide +kernel
theorem dX10_heardElsewhere_3 : decode cX10_heardElsewhere 3 = .ok (.aload_n 0, 1) := by decide +kernel
theorem dX10_heardElsewhere_4 : decode cX10_heardElsewhere 4 = .ok (.getfield 53, 3) := by decide +kernel
theorem dX10_heardElsewhere_7 : decode cX10_heardElsewhere 7 = .ok (.getfield 251, 3) := by decide +kernel
theorem dX10_heardElsewhere_10 : decode cX10_heardElsewhere 10 = .ok (.if_icmp .ge 74, 3) := by decide +kernel
theorem dX10_heardElsewhere_13 : decode cX10_heardElsewhere 13 = .ok (.aload_n 0, 1) := by decide +kernel
theorem dX10_heardElsewhere_14 : decode cX10_heardElsewhere 14 = .ok (.getfield 53, 3) := by decide +kernel
theorem dX10_heardElsewhere_17 : decode cX10_heardElsewhere 17 = .ok (.getfield 303, 3) := by decide +kernel
theorem dX10_heardElsewhere_20 : decode cX10_heardElsewhere 20 = .ok (.iload_n 3, 1) := by decide +kernel
theorem dX10_heardElsewhere_21 : decode cX10_heardElsewhere 21 = .ok (.iaload, 1) := by decide +kernel
theorem dX10_heardElsewhere_22 : decode cX10_heardElsewhere 22 = .ok (.istore 4, 2) := by decide +kernel
theorem dX10_heardElsewhere_24 : decode cX10_heardElsewhere 24 = .ok (.aload_n 0, 1) := by decide +kernel
theorem dX10_heardElsewhere_25 : decode cX10_heardElsewhere 25 = .ok (.getfield 53, 3) := by decide +kernel
theorem dX10_heardElsewhere_28 : decode cX10_heardElsewhere 28 = .ok (.getfield 304, 3) := by decide +kernel
theorem dX10_heardElsewhere_31 : decode cX10_heardElsewhere 31 = .ok (.iload_n 3, 1) := by decide +kernel
theorem dX10_heardElsewhere_32 : decode cX10_heardElsewhere 32 = .ok (.iaload, 1) := by decide +kernel
theorem dX10_heardElsewhere_33 : decode cX10_heardElsewhere 33 = .ok (.iload_n 1, 1) := by decide +kernel
theorem dX10_heardElsewhere_34 : decode cX10_heardElsewhere 34 = .ok (.if_icmp .ne 44, 3) := by decide +kernel
theorem dX10_heardElsewhere_37 : decode cX10_heardElsewhere 37 = .ok (.aload_n 0, 1) := by decide +kernel
theorem dX10_heardElsewhere_38 : decode cX10_heardElsewhere 38 = .ok (.getfield 53, 3) := by decide +kernel
theorem dX10_heardElsewhere_41 : decode cX10_heardElsewhere 41 = .ok (.iload_n 3, 1) := by decide +kernel
theorem dX10_heardElsewhere_42 : decode cX10_heardElsewhere 42 = .ok (.invokevirtual 307, 3) := by decide +kernel
theorem dX10_heardElsewhere_45 : decode cX10_heardElsewhere 45 = .ok (.ifCond .eq 33, 3) := by decide +kernel
theorem dX10_heardElsewhere_48 : decode cX10_heardElsewhere 48 = .ok (.iload 4, 2) := by decide +kernel
theorem dX10_heardElsewhere_50 : decode cX10_heardElsewhere 50 = .ok (.iload_n 2, 1) := by decide +kernel
theorem dX10_heardElsewhere_51 : decode cX10_heardElsewhere 51 = .ok (.if_icmp .eq 27, 3) := by decide +kernel
theorem dX10_heardElsewhere_54 : decode cX10_heardElsewhere 54 = .ok (.aload_n 0, 1) := by decide +kernel
theorem dX10_heardElsewhere_55 : decode cX10_heardElsewhere 55 = .ok (.getfield 32, 3) := by decide +kernel
theorem dX10_heardElsewhere_58 : decode cX10_heardElsewhere 58 = .ok (.getfield 310, 3) := by decide +kernel
theorem dX10_heardElsewhere_61 : decode cX10_heardElsewhere 61 = .ok (.iload 4, 2) := by decide +kernel
theorem dX10_heardElsewhere_63 : decode cX10_heardElsewhere 63 = .ok (.iaload, 1) := by decide +kernel
theorem dX10_heardElsewhere_64 : decode cX10_heardElsewhere 64 = .ok (.aload_n 0, 1) := by decide +kernel
theorem dX10_heardElsewhere_65 : decode cX10_heardElsewhere 65 = .ok (.getfield 32, 3) := by decide +kernel
theorem dX10_heardElsewhere_68 : decode cX10_heardElsewhere 68 = .ok (.getfield 310, 3) := by decide +kernel
theorem dX10_heardElsewhere_71 : decode cX10_heardElsewhere 71 = .ok (.iload_n 2, 1) := by decide +kernel
theorem dX10_heardElsewhere_72 : decode cX10_heardElsewhere 72 = .ok (.iaload, 1) := by decide +kernel
theorem dX10_heardElsewhere_73 : decode cX10_heardElsewhere 73 = .ok (.if_icmp .ne 5, 3) := by decide +kernel
theorem dX10_heardElsewhere_76 : decode cX10_heardElsewhere 76 = .ok (.iconst 1, 1) := by decide +kernel
theorem dX10_heardElsewhere_77 : decode cX10_heardElsewhere 77 = .ok (.ireturn, 1) := by decide +kernel
theorem dX10_heardElsewhere_78 : decode cX10_heardElsewhere 78 = .ok (.iinc 3 1, 3) := by decide +kernel
theorem dX10_heardElsewhere_81 : decode cX10_heardElsewhere 81 = .ok (.goto (-79), 3) := by decide +kernel
theorem dX10_heardElsewhere_84 : decode cX10_heardElsewhere 84 = .ok (.iconst 0, 1) := by decide +kernel
theorem dX10_heardElsewhere_85 : decode cX10_heardElsewhere 85 = .ok (.ireturn, 1) := by decide +kernel
theorem dX11_sign_0 : decode cX11_sign 0 = .ok (.iload_n 1, 1) := by decide +kernel
theorem dX11_sign_1 : decode cX11_sign 1 = .ok (.aload_n 0, 1) := by decide +kernel
theorem dX11_sign_2 : decode cX11_sign 2 = .ok (.getfield 1, 3) := by decide +kernel
theorem dX11_sign_5 : decode cX11_sign 5 = .ok (.if_icmp .ge 16, 3) := by decide +kernel
theorem dX11_sign_8 : decode cX11_sign 8 = .ok (.aload_n 0, 1) := by decide +kernel
theorem dX11_sign_9 : decode cX11_sign 9 = .ok (.getfield 7, 3) := by decide +kernel
theorem dX11_sign_12 : decode cX11_sign 12 = .ok (.iload_n 1, 1) := by decide +kernel
theorem dX11_sign_13 : decode cX11_sign 13 = .ok (.baload, 1) := by decide +kernel
theorem dX11_sign_14 : decode cX11_sign 14 = .ok (.sipush 255, 3) := by decide +kernel
theorem dX11_sign_17 : decode cX11_sign 17 = .ok (.iand, 1) := by decide +kernel
theorem dX11_sign_18 : decode cX11_sign 18 = .ok (.goto 4, 3) := by decide +kernel
theorem dX11_sign_21 : decode cX11_sign 21 = .ok (.iconst 0, 1) := by decide +kernel
theorem dX11_sign_22 : decode cX11_sign 22 = .ok (.ireturn, 1) := by decide +kernel
theorem dX11_isLetter_0 : decode cX11_isLetter 0 = .ok (.iload_n 0, 1) := by decide +kernel
theorem dX11_isLetter_1 : decode cX11_isLetter 1 = .ok (.bipush 97, 2) := by decide +kernel
theorem dX11_isLetter_3 : decode cX11_isLetter 3 = .ok (.if_icmp .lt 13, 3) := by decide +kernel
theorem dX11_isLetter_6 : decode cX11_isLetter 6 = .ok (.iload_n 0, 1) := by decide +kernel
theorem dX11_isLetter_7 : decode cX11_isLetter 7 = .ok (.bipush 122, 2) := by decide +kernel
theorem dX11_isLetter_9 : decode cX11_isLetter 9 = .ok (.if_icmp .gt 7, 3) := by decide +kernel
theorem dX11_isLetter_12 : decode cX11_isLetter 12 = .ok (.iconst 1, 1) := by decide +kernel
theorem dX11_isLetter_13 : decode cX11_isLetter 13 = .ok (.goto 4, 3) := by decide +kernel
theorem dX11_isLetter_16 : decode cX11_isLetter 16 = .ok (.iconst 0, 1) := by decide +kernel
theorem dX11_isLetter_17 : decode cX11_isLetter 17 = .ok (.ireturn, 1) := by decide +kernel
theorem dX11_isDigit_0 : decode cX11_isDigit 0 = .ok (.iload_n 0, 1) := by decide +kernel
theorem dX11_isDigit_1 : decode cX11_isDigit 1 = .ok (.bipush 48, 2) := by decide +kernel
theorem dX11_isDigit_3 : decode cX11_isDigit 3 = .ok (.if_icmp .lt 13, 3) := by decide +kernel
theorem dX11_isDigit_6 : decode cX11_isDigit 6 = .ok (.iload_n 0, 1) := by decide +kernel
theorem dX11_isDigit_7 : decode cX11_isDigit 7 = .ok (.bipush 57, 2) := by decide +kernel
theorem dX11_isDigit_9 : decode cX11_isDigit 9 = .ok (.if_icmp .gt 7, 3) := by decide +kernel
theorem dX11_isDigit_12 : decode cX11_isDigit 12 = .ok (.iconst 1, 1) := by decide +kernel
theorem dX11_isDigit_13 : decode cX11_isDigit 13 = .ok (.goto 4, 3) := by decide +kernel
theorem dX11_isDigit_16 : decode cX11_isDigit 16 = .ok (.iconst 0, 1) := by decide +kernel
theorem dX11_isDigit_17 : decode cX11_isDigit 17 = .ok (.ireturn, 1) := by decide +kernel
theorem dX11_fails_0 : decode cX11_fails 0 = .ok (.aload_n 0, 1) := by decide +kernel
theorem dX11_fails_1 : decode cX11_fails 1 = .ok (.getfield 11, 3) := by decide +kernel
theorem dX11_fails_4 : decode cX11_fails 4 = .ok (.ifCond .le 4, 3) := by decide +kernel
theorem dX11_fails_7 : decode cX11_fails 7 = .ok (.return_, 1) := by decide +kernel
theorem dX11_fails_8 : decode cX11_fails 8 = .ok (.aload_n 0, 1) := by decide +kernel
theorem dX11_fails_9 : decode cX11_fails 9 = .ok (.iload_n 1, 1) := by decide +kernel
theorem dX11_fails_10 : decode cX11_fails 10 = .ok (.putfield 11, 3) := by decide +kernel
theorem dX11_fails_13 : decode cX11_fails 13 = .ok (.aload_n 0, 1) := by decide +kernel
theorem dX11_fails_14 : decode cX11_fails 14 = .ok (.iload_n 2, 1) := by decide +kernel
theorem dX11_fails_15 : decode cX11_fails 15 = .ok (.putfield 14, 3) := by decide +kernel
theorem dX11_fails_18 : decode cX11_fails 18 = .ok (.return_, 1) := by decide +kernel
theorem dX11_isGood_0 : decode cX11_isGood 0 = .ok (.aload_n 0, 1) := by decide +kernel
theorem dX11_isGood_1 : decode cX11_isGood 1 = .ok (.getfield 11, 3) := by decide +kernel
theorem dX11_isGood_4 : decode cX11_isGood 4 = .ok (.ifCond .ne 7, 3) := by decide +kernel
theorem dX11_isGood_7 : decode cX11_isGood 7 = .ok (.iconst 1, 1) := by decide +kernel
theorem dX11_isGood_8 : decode cX11_isGood 8 = .ok (.goto 4, 3) := by decide +kernel
theorem dX11_isGood_11 : decode cX11_isGood 11 = .ok (.iconst 0, 1) := by decide +kernel
theorem dX11_isGood_12 : decode cX11_isGood 12 = .ok (.ireturn, 1) := by decide +kernel
theorem dX11_isMeant_0 : decode cX11_isMeant 0 = .ok (.lload_n 0, 1) := by decide +kernel
theorem dX11_isMeant_1 : decode cX11_isMeant 1 = .ok (.ldc2_w 17, 3) := by decide +kernel
theorem dX11_isMeant_4 : decode cX11_isMeant 4 = .ok (.lcmp, 1) := by decide +kernel
theorem dX11_isMeant_5 : decode cX11_isMeant 5 = .ok (.ifCond .eq 35, 3) := by decide +kernel
theorem dX11_isMeant_8 : decode cX11_isMeant 8 = .ok (.lload_n 0, 1) := by decide +kernel
theorem dX11_isMeant_9 : decode cX11_isMeant 9 = .ok (.ldc2_w 19, 3) := by decide +kernel
theorem dX11_isMeant_12 : decode cX11_isMeant 12 = .ok (.lcmp, 1) := by decide +kernel
theorem dX11_isMeant_13 : decode cX11_isMeant 13 = .ok (.ifCond .eq 27, 3) := by decide +kernel
theorem dX11_isMeant_16 : decode cX11_isMeant 16 = .ok (.lload_n 0, 1) := by decide +kernel
theorem dX11_isMeant_17 : decode cX11_isMeant 17 = .ok (.ldc2_w 21, 3) := by decide +kernel
theorem dX11_isMeant_20 : decode cX11_isMeant 20 = .ok (.lcmp, 1) := by decide +kernel
theorem dX11_isMeant_21 : decode cX11_isMeant 21 = .ok (.ifCond .eq 19, 3) := by decide +kernel
theorem dX11_isMeant_24 : decode cX11_isMeant 24 = .ok (.lload_n 0, 1) := by decide +kernel
theorem dX11_isMeant_25 : decode cX11_isMeant 25 = .ok (.ldc2_w 23, 3) := by decide +kernel
theorem dX11_isMeant_28 : decode cX11_isMeant 28 = .ok (.lcmp, 1) := by decide +kernel
theorem dX11_isMeant_29 : decode cX11_isMeant 29 = .ok (.ifCond .eq 11, 3) := by decide +kernel
theorem dX11_isMeant_32 : decode cX11_isMeant 32 = .ok (.lload_n 0, 1) := by decide +kernel
theorem dX11_isMeant_33 : decode cX11_isMeant 33 = .ok (.ldc2_w 25, 3) := by decide +kernel
theorem dX11_isMeant_36 : decode cX11_isMeant 36 = .ok (.lcmp, 1) := by decide +kernel
theorem dX11_isMeant_37 : decode cX11_isMeant 37 = .ok (.ifCond .ne 7, 3) := by decide +kernel
theorem dX11_isMeant_40 : decode cX11_isMeant 40 = .ok (.iconst 1, 1) := by decide +kernel
theorem dX11_isMeant_41 : decode cX11_isMeant 41 = .ok (.goto 4, 3) := by decide +kernel
theorem dX11_isMeant_44 : decode cX11_isMeant 44 = .ok (.iconst 0, 1) := by decide +kernel
theorem dX11_isMeant_45 : decode cX11_isMeant 45 = .ok (.ireturn, 1) := by decide +kernel
theorem dX11_isKept_0 : decode cX11_isKept 0 = .ok (.lload_n 0, 1) := by decide +kernel
theorem dX11_isKept_1 : decode cX11_isKept 1 = .ok (.invokestatic 27, 3) := by decide +kernel
theorem dX11_isKept_4 : decode cX11_isKept 4 = .ok (.ifCond .ne 83, 3) := by decide +kernel
theorem dX11_isKept_7 : decode cX11_isKept 7 = .ok (.lload_n 0, 1) := by decide +kernel
theorem dX11_isKept_8 : decode cX11_isKept 8 = .ok (.ldc2_w 31, 3) := by decide +kernel
theorem dX11_isKept_11 : decode cX11_isKept 11 = .ok (.lcmp, 1) := by decide +kernel
theorem dX11_isKept_12 : decode cX11_isKept 12 = .ok (.ifCond .eq 75, 3) := by decide +kernel
theorem dX11_isKept_15 : decode cX11_isKept 15 = .ok (.lload_n 0, 1) := by decide +kernel
theorem dX11_isKept_16 : decode cX11_isKept 16 = .ok (.ldc2_w 33, 3) := by decide +kernel
theorem dX11_isKept_19 : decode cX11_isKept 19 = .ok (.lcmp, 1) := by decide +kernel
theorem dX11_isKept_20 : decode cX11_isKept 20 = .ok (.ifCond .eq 67, 3) := by decide +kernel
theorem dX11_isKept_23 : decode cX11_isKept 23 = .ok (.lload_n 0, 1) := by decide +kernel
theorem dX11_isKept_24 : decode cX11_isKept 24 = .ok (.ldc2_w 35, 3) := by decide +kernel
theorem dX11_isKept_27 : decode cX11_isKept 27 = .ok (.lcmp, 1) := by decide +kernel
theorem dX11_isKept_28 : decode cX11_isKept 28 = .ok (.ifCond .eq 59, 3) := by decide +kernel
theorem dX11_isKept_31 : decode cX11_isKept 31 = .ok (.lload_n 0, 1) := by decide +kernel
theorem dX11_isKept_32 : decode cX11_isKept 32 = .ok (.ldc2_w 37, 3) := by decide +kernel
theorem dX11_isKept_35 : decode cX11_isKept 35 = .ok (.lcmp, 1) := by decide +kernel
theorem dX11_isKept_36 : decode cX11_isKept 36 = .ok (.ifCond .eq 51, 3) := by decide +kernel
theorem dX11_isKept_39 : decode cX11_isKept 39 = .ok (.lload_n 0, 1) := by decide +kernel
theorem dX11_isKept_40 : decode cX11_isKept 40 = .ok (.ldc2_w 39, 3) := by decide +kernel
theorem dX11_isKept_43 : decode cX11_isKept 43 = .ok (.lcmp, 1) := by decide +kernel
theorem dX11_isKept_44 : decode cX11_isKept 44 = .ok (.ifCond .eq 43, 3) := by decide +kernel
theorem dX11_isKept_47 : decode cX11_isKept 47 = .ok (.lload_n 0, 1) := by decide +kernel
theorem dX11_isKept_48 : decode cX11_isKept 48 = .ok (.ldc2_w 41, 3) := by decide +kernel
theorem dX11_isKept_51 : decode cX11_isKept 51 = .ok (.lcmp, 1) := by decide +kernel
theorem dX11_isKept_52 : decode cX11_isKept 52 = .ok (.ifCond .eq 35, 3) := by decide +kernel
theorem dX11_isKept_55 : decode cX11_isKept 55 = .ok (.lload_n 0, 1) := by decide +kernel
theorem dX11_isKept_56 : decode cX11_isKept 56 = .ok (.ldc2_w 43, 3) := by decide +kernel
theorem dX11_isKept_59 : decode cX11_isKept 59 = .ok (.lcmp, 1) := by decide +kernel
theorem dX11_isKept_60 : decode cX11_isKept 60 = .ok (.ifCond .eq 27, 3) := by decide +kernel
theorem dX11_isKept_63 : decode cX11_isKept 63 = .ok (.lload_n 0, 1) := by decide +kernel
theorem dX11_isKept_64 : decode cX11_isKept 64 = .ok (.ldc2_w 45, 3) := by decide +kernel
theorem dX11_isKept_67 : decode cX11_isKept 67 = .ok (.lcmp, 1) := by decide +kernel
theorem dX11_isKept_68 : decode cX11_isKept 68 = .ok (.ifCond .eq 19, 3) := by decide +kernel
theorem dX11_isKept_71 : decode cX11_isKept 71 = .ok (.lload_n 0, 1) := by decide +kernel
theorem dX11_isKept_72 : decode cX11_isKept 72 = .ok (.ldc2_w 47, 3) := by decide +kernel
theorem dX11_isKept_75 : decode cX11_isKept 75 = .ok (.lcmp, 1) := by decide +kernel
theorem dX11_isKept_76 : decode cX11_isKept 76 = .ok (.ifCond .eq 11, 3) := by decide +kernel
theorem dX11_isKept_79 : decode cX11_isKept 79 = .ok (.lload_n 0, 1) := by decide +kernel
theorem dX11_isKept_80 : decode cX11_isKept 80 = .ok (.ldc2_w 49, 3) := by decide +kernel
theorem dX11_isKept_83 : decode cX11_isKept 83 = .ok (.lcmp, 1) := by decide +kernel
theorem dX11_isKept_84 : decode cX11_isKept 84 = .ok (.ifCond .ne 7, 3) := by decide +kernel
theorem dX11_isKept_87 : decode cX11_isKept 87 = .ok (.iconst 1, 1) := by decide +kernel
theorem dX11_isKept_88 : decode cX11_isKept 88 = .ok (.goto 4, 3) := by decide +kernel
theorem dX11_isKept_91 : decode cX11_isKept 91 = .ok (.iconst 0, 1) := by decide +kernel
theorem dX11_isKept_92 : decode cX11_isKept 92 = .ok (.ireturn, 1) := by decide +kernel
theorem dX11_next_0 : decode cX11_next 0 = .ok (.aload_n 0, 1) := by decide +kernel
theorem dX11_next_1 : decode cX11_next 1 = .ok (.aload_n 0, 1) := by decide +kernel
theorem dX11_next_2 : decode cX11_next 2 = .ok (.getfield 51, 3) := by decide +kernel
theorem dX11_next_5 : decode cX11_next 5 = .ok (.putfield 54, 3) := by decide +kernel
theorem dX11_next_8 : decode cX11_next 8 = .ok (.aload_n 0, 1) := by decide +kernel
theorem dX11_next_9 : decode cX11_next 9 = .ok (.getfield 54, 3) := by decide +kernel
theorem dX11_next_12 : decode cX11_next 12 = .ok (.aload_n 0, 1) := by decide +kernel
theorem dX11_next_13 : decode cX11_next 13 = .ok (.getfield 1, 3) := by decide +kernel
theorem dX11_next_16 : decode cX11_next 16 = .ok (.if_icmp .ge 42, 3) := by decide +kernel
theorem dX11_next_19 : decode cX11_next 19 = .ok (.aload_n 0, 1) := by decide +kernel
theorem dX11_next_20 : decode cX11_next 20 = .ok (.aload_n 0, 1) := by decide +kernel
theorem dX11_next_21 : decode cX11_next 21 = .ok (.getfield 54, 3) := by decide +kernel
theorem dX11_next_24 : decode cX11_next 24 = .ok (.invokevirtual 57, 3) := by decide +kernel
theorem dX11_next_27 : decode cX11_next 27 = .ok (.bipush 32, 2) := by decide +kernel
theorem dX11_next_29 : decode cX11_next 29 = .ok (.if_icmp .eq 16, 3) := by decide +kernel
theorem dX11_next_32 : decode cX11_next 32 = .ok (.aload_n 0, 1) := by decide +kernel
theorem dX11_next_33 : decode cX11_next 33 = .ok (.aload_n 0, 1) := by decide +kernel
theorem dX11_next_34 : decode cX11_next 34 = .ok (.getfield 54, 3) := by decide +kernel
theorem dX11_next_37 : decode cX11_next 37 = .ok (.invokevirtual 57, 3) := by decide +kernel
theorem dX11_next_40 : decode cX11_next 40 = .ok (.bipush 10, 2) := by decide +kernel
theorem dX11_next_42 : decode cX11_next 42 = .ok (.if_icmp .ne 16, 3) := by decide +kernel
theorem dX11_next_45 : decode cX11_next 45 = .ok (.aload_n 0, 1) := by decide +kernel
theorem dX11_next_46 : decode cX11_next 46 = .ok (.dup, 1) := by decide +kernel
theorem dX11_next_47 : decode cX11_next 47 = .ok (.getfield 54, 3) := by decide +kernel
theorem dX11_next_50 : decode cX11_next 50 = .ok (.iconst 1, 1) := by decide +kernel
theorem dX11_next_51 : decode cX11_next 51 = .ok (.iadd, 1) := by decide +kernel
theorem dX11_next_52 : decode cX11_next 52 = .ok (.putfield 54, 3) := by decide +kernel
theorem dX11_next_55 : decode cX11_next 55 = .ok (.goto (-47), 3) := by decide +kernel
theorem dX11_next_58 : decode cX11_next 58 = .ok (.aload_n 0, 1) := by decide +kernel
theorem dX11_next_59 : decode cX11_next 59 = .ok (.aload_n 0, 1) := by decide +kernel
theorem dX11_next_60 : decode cX11_next 60 = .ok (.getfield 54, 3) := by decide +kernel
theorem dX11_next_63 : decode cX11_next 63 = .ok (.invokevirtual 57, 3) := by decide +kernel
theorem dX11_next_66 : decode cX11_next 66 = .ok (.istore_n 1, 1) := by decide +kernel
theorem dX11_next_67 : decode cX11_next 67 = .ok (.aload_n 0, 1) := by decide +kernel
theorem dX11_next_68 : decode cX11_next 68 = .ok (.aload_n 0, 1) := by decide +kernel
theorem dX11_next_69 : decode cX11_next 69 = .ok (.getfield 54, 3) := by decide +kernel
theorem dX11_next_72 : decode cX11_next 72 = .ok (.iconst 1, 1) := by decide +kernel
theorem dX11_next_73 : decode cX11_next 73 = .ok (.iadd, 1) := by decide +kernel
theorem dX11_next_74 : decode cX11_next 74 = .ok (.putfield 51, 3) := by decide +kernel
theorem dX11_next_77 : decode cX11_next 77 = .ok (.aload_n 0, 1) := by decide +kernel
theorem dX11_next_78 : decode cX11_next 78 = .ok (.getfield 54, 3) := by decide +kernel
theorem dX11_next_81 : decode cX11_next 81 = .ok (.aload_n 0, 1) := by decide +kernel
theorem dX11_next_82 : decode cX11_next 82 = .ok (.getfield 1, 3) := by decide +kernel
theorem dX11_next_85 : decode cX11_next 85 = .ok (.if_icmp .lt 27, 3) := by decide +kernel
theorem dX11_next_88 : decode cX11_next 88 = .ok (.aload_n 0, 1) := by decide +kernel
theorem dX11_next_89 : decode cX11_next 89 = .ok (.iconst 0, 1) := by decide +kernel
theorem dX11_next_90 : decode cX11_next 90 = .ok (.putfield 61, 3) := by decide +kernel
theorem dX11_next_93 : decode cX11_next 93 = .ok (.aload_n 0, 1) := by decide +kernel
theorem dX11_next_94 : decode cX11_next 94 = .ok (.aload_n 0, 1) := by decide +kernel
theorem dX11_next_95 : decode cX11_next 95 = .ok (.getfield 1, 3) := by decide +kernel
theorem dX11_next_98 : decode cX11_next 98 = .ok (.putfield 54, 3) := by decide +kernel
theorem dX11_next_101 : decode cX11_next 101 = .ok (.aload_n 0, 1) := by decide +kernel
theorem dX11_next_102 : decode cX11_next 102 = .ok (.aload_n 0, 1) := by decide +kernel
theorem dX11_next_103 : decode cX11_next 103 = .ok (.getfield 1, 3) := by decide +kernel
theorem dX11_next_106 : decode cX11_next 106 = .ok (.putfield 51, 3) := by decide +kernel
theorem dX11_next_109 : decode cX11_next 109 = .ok (.goto 343, 3) := by decide +kernel
theorem dX11_next_112 : decode cX11_next 112 = .ok (.iload_n 1, 1) := by decide +kernel
theorem dX11_next_113 : decode cX11_next 113 = .ok (.invokestatic 64, 3) := by decide +kernel
theorem dX11_next_116 : decode cX11_next 116 = .ok (.ifCond .eq 137, 3) := by decide +kernel
theorem dX11_next_119 : decode cX11_next 119 = .ok (.aload_n 0, 1) := by decide +kernel
theorem dX11_next_120 : decode cX11_next 120 = .ok (.aload_n 0, 1) := by decide +kernel
theorem dX11_next_121 : decode cX11_next 121 = .ok (.getfield 51, 3) := by decide +kernel
theorem dX11_next_124 : decode cX11_next 124 = .ok (.invokevirtual 57, 3) := by decide +kernel
theorem dX11_next_127 : decode cX11_next 127 = .ok (.invokestatic 64, 3) := by decide +kernel
theorem dX11_next_130 : decode cX11_next 130 = .ok (.ifCond .ne 17, 3) := by decide +kernel
theorem dX11_next_133 : decode cX11_next 133 = .ok (.aload_n 0, 1) := by decide +kernel
theorem dX11_next_134 : decode cX11_next 134 = .ok (.aload_n 0, 1) := by decide +kernel
theorem dX11_next_135 : decode cX11_next 135 = .ok (.getfield 51, 3) := by decide +kernel
theorem dX11_next_138 : decode cX11_next 138 = .ok (.invokevirtual 57, 3) := by decide +kernel
theorem dX11_next_141 : decode cX11_next 141 = .ok (.invokestatic 68, 3) := by decide +kernel
theorem dX11_next_144 : decode cX11_next 144 = .ok (.ifCond .eq 16, 3) := by decide +kernel
theorem dX11_next_147 : decode cX11_next 147 = .ok (.aload_n 0, 1) := by decide +kernel
theorem dX11_next_148 : decode cX11_next 148 = .ok (.dup, 1) := by decide +kernel
theorem dX11_next_149 : decode cX11_next 149 = .ok (.getfield 51, 3) := by decide +kernel
theorem dX11_next_152 : decode cX11_next 152 = .ok (.iconst 1, 1) := by decide +kernel
theorem dX11_next_153 : decode cX11_next 153 = .ok (.iadd, 1) := by decide +kernel
theorem dX11_next_154 : decode cX11_next 154 = .ok (.putfield 51, 3) := by decide +kernel
theorem dX11_next_157 : decode cX11_next 157 = .ok (.goto (-38), 3) := by decide +kernel
theorem dX11_next_160 : decode cX11_next 160 = .ok (.aload_n 0, 1) := by decide +kernel
theorem dX11_next_161 : decode cX11_next 161 = .ok (.lconst 0, 1) := by decide +kernel
theorem dX11_next_162 : decode cX11_next 162 = .ok (.putfield 71, 3) := by decide +kernel
theorem dX11_next_165 : decode cX11_next 165 = .ok (.aload_n 0, 1) := by decide +kernel
theorem dX11_next_166 : decode cX11_next 166 = .ok (.getfield 54, 3) := by decide +kernel
theorem dX11_next_169 : decode cX11_next 169 = .ok (.istore_n 2, 1) := by decide +kernel
theorem dX11_next_170 : decode cX11_next 170 = .ok (.iload_n 2, 1) := by decide +kernel
theorem dX11_next_171 : decode cX11_next 171 = .ok (.aload_n 0, 1) := by decide +kernel
theorem dX11_next_172 : decode cX11_next 172 = .ok (.getfield 51, 3) := by decide +kernel
theorem dX11_next_175 : decode cX11_next 175 = .ok (.if_icmp .ge 38, 3) := by decide +kernel
theorem dX11_next_178 : decode cX11_next 178 = .ok (.iload_n 2, 1) := by decide +kernel
theorem dX11_next_179 : decode cX11_next 179 = .ok (.aload_n 0, 1) := by decide +kernel
theorem dX11_next_180 : decode cX11_next 180 = .ok (.getfield 54, 3) := by decide +kernel
theorem dX11_next_183 : decode cX11_next 183 = .ok (.bipush 8, 2) := by decide +kernel
theorem dX11_next_185 : decode cX11_next 185 = .ok (.iadd, 1) := by decide +kernel
theorem dX11_next_186 : decode cX11_next 186 = .ok (.if_icmp .ge 27, 3) := by decide +kernel
theorem dX11_next_189 : decode cX11_next 189 = .ok (.aload_n 0, 1) := by decide +kernel
theorem dX11_next_190 : decode cX11_next 190 = .ok (.aload_n 0, 1) := by decide +kernel
theorem dX11_next_191 : decode cX11_next 191 = .ok (.getfield 71, 3) := by decide +kernel
theorem dX11_next_194 : decode cX11_next 194 = .ok (.bipush 8, 2) := by decide +kernel
theorem dX11_next_196 : decode cX11_next 196 = .ok (.lshl, 1) := by decide +kernel
theorem dX11_next_197 : decode cX11_next 197 = .ok (.aload_n 0, 1) := by decide +kernel
theorem dX11_next_198 : decode cX11_next 198 = .ok (.iload_n 2, 1) := by decide +kernel
theorem dX11_next_199 : decode cX11_next 199 = .ok (.invokevirtual 57, 3) := by decide +kernel
theorem dX11_next_202 : decode cX11_next 202 = .ok (.i2l, 1) := by decide +kernel
theorem dX11_next_203 : decode cX11_next 203 = .ok (.lor, 1) := by decide +kernel
theorem dX11_next_204 : decode cX11_next 204 = .ok (.putfield 71, 3) := by decide +kernel
theorem dX11_next_207 : decode cX11_next 207 = .ok (.iinc 2 1, 3) := by decide +kernel
theorem dX11_next_210 : decode cX11_next 210 = .ok (.goto (-40), 3) := by decide +kernel
theorem dX11_next_213 : decode cX11_next 213 = .ok (.aload_n 0, 1) := by decide +kernel
theorem dX11_next_214 : decode cX11_next 214 = .ok (.aload_n 0, 1) := by decide +kernel
theorem dX11_next_215 : decode cX11_next 215 = .ok (.getfield 51, 3) := by decide +kernel
theorem dX11_next_218 : decode cX11_next 218 = .ok (.aload_n 0, 1) := by decide +kernel
theorem dX11_next_219 : decode cX11_next 219 = .ok (.getfield 54, 3) := by decide +kernel
theorem dX11_next_222 : decode cX11_next 222 = .ok (.isub, 1) := by decide +kernel
theorem dX11_next_223 : decode cX11_next 223 = .ok (.bipush 8, 2) := by decide +kernel
theorem dX11_next_225 : decode cX11_next 225 = .ok (.if_icmp .le 7, 3) := by decide +kernel
theorem dX11_next_228 : decode cX11_next 228 = .ok (.iconst 1, 1) := by decide +kernel
theorem dX11_next_229 : decode cX11_next 229 = .ok (.goto 18, 3) := by decide +kernel
theorem dX11_next_232 : decode cX11_next 232 = .ok (.aload_n 0, 1) := by decide +kernel
theorem dX11_next_233 : decode cX11_next 233 = .ok (.getfield 71, 3) := by decide +kernel
theorem dX11_next_236 : decode cX11_next 236 = .ok (.invokestatic 75, 3) := by decide +kernel
theorem dX11_next_239 : decode cX11_next 239 = .ok (.ifCond .eq 7, 3) := by decide +kernel
theorem dX11_next_242 : decode cX11_next 242 = .ok (.iconst 3, 1) := by decide +kernel
theorem dX11_next_243 : decode cX11_next 243 = .ok (.goto 4, 3) := by decide +kernel
theorem dX11_next_246 : decode cX11_next 246 = .ok (.iconst 2, 1) := by decide +kernel
theorem dX11_next_247 : decode cX11_next 247 = .ok (.putfield 61, 3) := by decide +kernel
theorem dX11_next_250 : decode cX11_next 250 = .ok (.goto 202, 3) := by decide +kernel
theorem dX11_next_253 : decode cX11_next 253 = .ok (.iload_n 1, 1) := by decide +kernel
theorem dX11_next_254 : decode cX11_next 254 = .ok (.invokestatic 68, 3) := by decide +kernel
theorem dX11_next_257 : decode cX11_next 257 = .ok (.ifCond .eq 120, 3) := by decide +kernel
theorem dX11_next_260 : decode cX11_next 260 = .ok (.aload_n 0, 1) := by decide +kernel
theorem dX11_next_261 : decode cX11_next 261 = .ok (.iconst 0, 1) := by decide +kernel
theorem dX11_next_262 : decode cX11_next 262 = .ok (.putfield 78, 3) := by decide +kernel
theorem dX11_next_265 : decode cX11_next 265 = .ok (.aload_n 0, 1) := by decide +kernel
theorem dX11_next_266 : decode cX11_next 266 = .ok (.aload_n 0, 1) := by decide +kernel
theorem dX11_next_267 : decode cX11_next 267 = .ok (.getfield 54, 3) := by decide +kernel
theorem dX11_next_270 : decode cX11_next 270 = .ok (.putfield 51, 3) := by decide +kernel
theorem dX11_next_273 : decode cX11_next 273 = .ok (.aload_n 0, 1) := by decide +kernel
theorem dX11_next_274 : decode cX11_next 274 = .ok (.aload_n 0, 1) := by decide +kernel
theorem dX11_next_275 : decode cX11_next 275 = .ok (.getfield 51, 3) := by decide +kernel
theorem dX11_next_278 : decode cX11_next 278 = .ok (.invokevirtual 57, 3) := by decide +kernel
theorem dX11_next_281 : decode cX11_next 281 = .ok (.invokestatic 68, 3) := by decide +kernel
theorem dX11_next_284 : decode cX11_next 284 = .ok (.ifCond .eq 53, 3) := by decide +kernel
theorem dX11_next_287 : decode cX11_next 287 = .ok (.aload_n 0, 1) := by decide +kernel
theorem dX11_next_288 : decode cX11_next 288 = .ok (.getfield 51, 3) := by decide +kernel
theorem dX11_next_291 : decode cX11_next 291 = .ok (.aload_n 0, 1) := by decide +kernel
theorem dX11_next_292 : decode cX11_next 292 = .ok (.getfield 54, 3) := by decide +kernel
theorem dX11_next_295 : decode cX11_next 295 = .ok (.isub, 1) := by decide +kernel
theorem dX11_next_296 : decode cX11_next 296 = .ok (.bipush 6, 2) := by decide +kernel
theorem dX11_next_298 : decode cX11_next 298 = .ok (.if_icmp .ge 26, 3) := by decide +kernel
theorem dX11_next_301 : decode cX11_next 301 = .ok (.aload_n 0, 1) := by decide +kernel
theorem dX11_next_302 : decode cX11_next 302 = .ok (.bipush 10, 2) := by decide +kernel
theorem dX11_next_304 : decode cX11_next 304 = .ok (.aload_n 0, 1) := by decide +kernel
theorem dX11_next_305 : decode cX11_next 305 = .ok (.getfield 78, 3) := by decide +kernel
theorem dX11_next_308 : decode cX11_next 308 = .ok (.imul, 1) := by decide +kernel
theorem dX11_next_309 : decode cX11_next 309 = .ok (.aload_n 0, 1) := by decide +kernel
theorem dX11_next_310 : decode cX11_next 310 = .ok (.aload_n 0, 1) := by decide +kernel
theorem dX11_next_311 : decode cX11_next 311 = .ok (.getfield 51, 3) := by decide +kernel
theorem dX11_next_314 : decode cX11_next 314 = .ok (.invokevirtual 57, 3) := by decide +kernel
theorem dX11_next_317 : decode cX11_next 317 = .ok (.iadd, 1) := by decide +kernel
theorem dX11_next_318 : decode cX11_next 318 = .ok (.bipush 48, 2) := by decide +kernel
theorem dX11_next_320 : decode cX11_next 320 = .ok (.isub, 1) := by decide +kernel
theorem dX11_next_321 : decode cX11_next 321 = .ok (.putfield 78, 3) := by decide +kernel
theorem dX11_next_324 : decode cX11_next 324 = .ok (.aload_n 0, 1) := by decide +kernel
theorem dX11_next_325 : decode cX11_next 325 = .ok (.dup, 1) := by decide +kernel
theorem dX11_next_326 : decode cX11_next 326 = .ok (.getfield 51, 3) := by decide +kernel
theorem dX11_next_329 : decode cX11_next 329 = .ok (.iconst 1, 1) := by decide +kernel
theorem dX11_next_330 : decode cX11_next 330 = .ok (.iadd, 1) := by decide +kernel
theorem dX11_next_331 : decode cX11_next 331 = .ok (.putfield 51, 3) := by decide +kernel
theorem dX11_next_334 : decode cX11_next 334 = .ok (.goto (-61), 3) := by decide +kernel
theorem dX11_next_337 : decode cX11_next 337 = .ok (.aload_n 0, 1) := by decide +kernel
theorem dX11_next_338 : decode cX11_next 338 = .ok (.aload_n 0, 1) := by decide +kernel
theorem dX11_next_339 : decode cX11_next 339 = .ok (.getfield 51, 3) := by decide +kernel
theorem dX11_next_342 : decode cX11_next 342 = .ok (.aload_n 0, 1) := by decide +kernel
theorem dX11_next_343 : decode cX11_next 343 = .ok (.getfield 54, 3) := by decide +kernel
theorem dX11_next_346 : decode cX11_next 346 = .ok (.isub, 1) := by decide +kernel
theorem dX11_next_347 : decode cX11_next 347 = .ok (.bipush 6, 2) := by decide +kernel
theorem dX11_next_349 : decode cX11_next 349 = .ok (.if_icmp .gt 17, 3) := by decide +kernel
theorem dX11_next_352 : decode cX11_next 352 = .ok (.aload_n 0, 1) := by decide +kernel
theorem dX11_next_353 : decode cX11_next 353 = .ok (.aload_n 0, 1) := by decide +kernel
theorem dX11_next_354 : decode cX11_next 354 = .ok (.getfield 51, 3) := by decide +kernel
theorem dX11_next_357 : decode cX11_next 357 = .ok (.invokevirtual 57, 3) := by decide +kernel
theorem dX11_next_360 : decode cX11_next 360 = .ok (.invokestatic 64, 3) := by decide +kernel
theorem dX11_next_363 : decode cX11_next 363 = .ok (.ifCond .eq 7, 3) := by decide +kernel
theorem dX11_next_366 : decode cX11_next 366 = .ok (.iconst 1, 1) := by decide +kernel
theorem dX11_next_367 : decode cX11_next 367 = .ok (.goto 4, 3) := by decide +kernel
theorem dX11_next_370 : decode cX11_next 370 = .ok (.iconst 4, 1) := by decide +kernel
theorem dX11_next_371 : decode cX11_next 371 = .ok (.putfield 61, 3) := by decide +kernel
theorem dX11_next_374 : decode cX11_next 374 = .ok (.goto 78, 3) := by decide +kernel
theorem dX11_next_377 : decode cX11_next 377 = .ok (.aload_n 0, 1) := by decide +kernel
theorem dX11_next_378 : decode cX11_next 378 = .ok (.iload_n 1, 1) := by decide +kernel
theorem dX11_next_379 : decode cX11_next 379 = .ok (.bipush 123, 2) := by decide +kernel
theorem dX11_next_381 : decode cX11_next 381 = .ok (.if_icmp .eq 63, 3) := by decide +kernel
theorem dX11_next_384 : decode cX11_next 384 = .ok (.iload_n 1, 1) := by decide +kernel
theorem dX11_next_385 : decode cX11_next 385 = .ok (.bipush 125, 2) := by decide +kernel
theorem dX11_next_387 : decode cX11_next 387 = .ok (.if_icmp .eq 57, 3) := by decide +kernel
theorem dX11_next_390 : decode cX11_next 390 = .ok (.iload_n 1, 1) := by decide +kernel
theorem dX11_next_391 : decode cX11_next 391 = .ok (.bipush 40, 2) := by decide +kernel
theorem dX11_next_393 : decode cX11_next 393 = .ok (.if_icmp .eq 51, 3) := by decide +kernel
theorem dX11_next_396 : decode cX11_next 396 = .ok (.iload_n 1, 1) := by decide +kernel
theorem dX11_next_397 : decode cX11_next 397 = .ok (.bipush 41, 2) := by decide +kernel
theorem dX11_next_399 : decode cX11_next 399 = .ok (.if_icmp .eq 45, 3) := by decide +kernel
theorem dX11_next_402 : decode cX11_next 402 = .ok (.iload_n 1, 1) := by decide +kernel
theorem dX11_next_403 : decode cX11_next 403 = .ok (.bipush 61, 2) := by decide +kernel
theorem dX11_next_405 : decode cX11_next 405 = .ok (.if_icmp .eq 39, 3) := by decide +kernel
theorem dX11_next_408 : decode cX11_next 408 = .ok (.iload_n 1, 1) := by decide +kernel
theorem dX11_next_409 : decode cX11_next 409 = .ok (.bipush 44, 2) := by decide +kernel
theorem dX11_next_411 : decode cX11_next 411 = .ok (.if_icmp .eq 33, 3) := by decide +kernel
theorem dX11_next_414 : decode cX11_next 414 = .ok (.iload_n 1, 1) := by decide +kernel
theorem dX11_next_415 : decode cX11_next 415 = .ok (.bipush 59, 2) := by decide +kernel
theorem dX11_next_417 : decode cX11_next 417 = .ok (.if_icmp .eq 27, 3) := by decide +kernel
theorem dX11_next_420 : decode cX11_next 420 = .ok (.iload_n 1, 1) := by decide +kernel
theorem dX11_next_421 : decode cX11_next 421 = .ok (.bipush 60, 2) := by decide +kernel
theorem dX11_next_423 : decode cX11_next 423 = .ok (.if_icmp .eq 21, 3) := by decide +kernel
theorem dX11_next_426 : decode cX11_next 426 = .ok (.iload_n 1, 1) := by decide +kernel
theorem dX11_next_427 : decode cX11_next 427 = .ok (.bipush 62, 2) := by decide +kernel
theorem dX11_next_429 : decode cX11_next 429 = .ok (.if_icmp .eq 15, 3) := by decide +kernel
theorem dX11_next_432 : decode cX11_next 432 = .ok (.iload_n 1, 1) := by decide +kernel
theorem dX11_next_433 : decode cX11_next 433 = .ok (.bipush 43, 2) := by decide +kernel
theorem dX11_next_435 : decode cX11_next 435 = .ok (.if_icmp .eq 9, 3) := by decide +kernel
theorem dX11_next_438 : decode cX11_next 438 = .ok (.iload_n 1, 1) := by decide +kernel
theorem dX11_next_439 : decode cX11_next 439 = .ok (.bipush 45, 2) := by decide +kernel
theorem dX11_next_441 : decode cX11_next 441 = .ok (.if_icmp .ne 7, 3) := by decide +kernel
theorem dX11_next_444 : decode cX11_next 444 = .ok (.iconst 5, 1) := by decide +kernel
theorem dX11_next_445 : decode cX11_next 445 = .ok (.goto 4, 3) := by decide +kernel
theorem dX11_next_448 : decode cX11_next 448 = .ok (.iconst 1, 1) := by decide +kernel
theorem dX11_next_449 : decode cX11_next 449 = .ok (.putfield 61, 3) := by decide +kernel
theorem dX11_next_452 : decode cX11_next 452 = .ok (.return_, 1) := by decide +kernel
theorem dX11_is_0 : decode cX11_is 0 = .ok (.aload_n 0, 1) := by decide +kernel
