theorem dX6_readItem_64 : decode cX6_readItem 64 = .ok (.aload_n 0, 1) := by decide +kernel
theorem dX6_readItem_65 : decode cX6_readItem 65 = .ok (.aload_n 1, 1) := by decide +kernel
theorem dX6_readItem_66 : decode cX6_readItem 66 = .ok (.invokevirtual 85, 3) := by decide +kernel
theorem dX6_readItem_69 : decode cX6_readItem 69 = .ok (.goto 61, 3) := by decide +kernel
theorem dX6_readItem_72 : decode cX6_readItem 72 = .ok (.aload_n 1, 1) := by decide +kernel
theorem dX6_readItem_73 : decode cX6_readItem 73 = .ok (.aload_n 0, 1) := by decide +kernel
theorem dX6_readItem_74 : decode cX6_readItem 74 = .ok (.iconst 1, 1) := by decide +kernel
theorem dX6_readItem_75 : decode cX6_readItem 75 = .ok (.bipush 120, 2) := by decide +kernel
theorem dX6_readItem_77 : decode cX6_readItem 77 = .ok (.invokevirtual 63, 3) := by decide +kernel
theorem dX6_readItem_80 : decode cX6_readItem 80 = .ok (.putfield 88, 3) := by decide +kernel
theorem dX6_readItem_83 : decode cX6_readItem 83 = .ok (.goto 47, 3) := by decide +kernel
theorem dX6_readItem_86 : decode cX6_readItem 86 = .ok (.aload_n 1, 1) := by decide +kernel
theorem dX6_readItem_87 : decode cX6_readItem 87 = .ok (.iload_n 2, 1) := by decide +kernel
theorem dX6_readItem_88 : decode cX6_readItem 88 = .ok (.aload_n 0, 1) := by decide +kernel
theorem dX6_readItem_89 : decode cX6_readItem 89 = .ok (.getfield 25, 3) := by decide +kernel
theorem dX6_readItem_92 : decode cX6_readItem 92 = .ok (.getfield 93, 3) := by decide +kernel
theorem dX6_readItem_95 : decode cX6_readItem 95 = .ok (.invokevirtual 96, 3) := by decide +kernel
theorem dX6_readItem_98 : decode cX6_readItem 98 = .ok (.aload_n 0, 1) := by decide +kernel
theorem dX6_readItem_99 : decode cX6_readItem 99 = .ok (.iload_n 2, 1) := by decide +kernel
theorem dX6_readItem_100 : decode cX6_readItem 100 = .ok (.sipush 204, 3) := by decide +kernel
theorem dX6_readItem_103 : decode cX6_readItem 103 = .ok (.if_icmp .ne 7, 3) := by decide +kernel
theorem dX6_readItem_106 : decode cX6_readItem 106 = .ok (.iconst 1, 1) := by decide +kernel
theorem dX6_readItem_107 : decode cX6_readItem 107 = .ok (.goto 4, 3) := by decide +kernel
theorem dX6_readItem_110 : decode cX6_readItem 110 = .ok (.iconst 0, 1) := by decide +kernel
theorem dX6_readItem_111 : decode cX6_readItem 111 = .ok (.putfield 99, 3) := by decide +kernel
theorem dX6_readItem_114 : decode cX6_readItem 114 = .ok (.aload_n 0, 1) := by decide +kernel
theorem dX6_readItem_115 : decode cX6_readItem 115 = .ok (.aload_n 1, 1) := by decide +kernel
theorem dX6_readItem_116 : decode cX6_readItem 116 = .ok (.iconst 0, 1) := by decide +kernel
theorem dX6_readItem_117 : decode cX6_readItem 117 = .ok (.invokevirtual 103, 3) := by decide +kernel
theorem dX6_readItem_120 : decode cX6_readItem 120 = .ok (.aload_n 0, 1) := by decide +kernel
theorem dX6_readItem_121 : decode cX6_readItem 121 = .ok (.getfield 25, 3) := by decide +kernel
theorem dX6_readItem_124 : decode cX6_readItem 124 = .ok (.bipush 59, 2) := by decide +kernel
theorem dX6_readItem_126 : decode cX6_readItem 126 = .ok (.iconst 0, 1) := by decide +kernel
theorem dX6_readItem_127 : decode cX6_readItem 127 = .ok (.invokevirtual 107, 3) := by decide +kernel
theorem dX6_readItem_130 : decode cX6_readItem 130 = .ok (.aload_n 0, 1) := by decide +kernel
theorem dX6_readItem_131 : decode cX6_readItem 131 = .ok (.bipush 59, 2) := by decide +kernel
theorem dX6_readItem_133 : decode cX6_readItem 133 = .ok (.invokevirtual 58, 3) := by decide +kernel
theorem dX6_readItem_136 : decode cX6_readItem 136 = .ok (.return_, 1) := by decide +kernel
theorem dX6_cannotStartItem_0 : decode cX6_cannotStartItem 0 = .ok (.aload_n 0, 1) := by decide +kernel
theorem dX6_cannotStartItem_1 : decode cX6_cannotStartItem 1 = .ok (.getfield 12, 3) := by decide +kernel
theorem dX6_cannotStartItem_4 : decode cX6_cannotStartItem 4 = .ok (.getfield 41, 3) := by decide +kernel
theorem dX6_cannotStartItem_7 : decode cX6_cannotStartItem 7 = .ok (.tableswitch 123 201 206 #[37, 52, 67, 80, 95, 109], 37) := by decide +kernel
theorem dX6_cannotStartItem_44 : decode cX6_cannotStartItem 44 = .ok (.aload_n 1, 1) := by decide +kernel
theorem dX6_cannotStartItem_45 : decode cX6_cannotStartItem 45 = .ok (.getfield 110, 3) := by decide +kernel
theorem dX6_cannotStartItem_48 : decode cX6_cannotStartItem 48 = .ok (.bipush 6, 2) := by decide +kernel
theorem dX6_cannotStartItem_50 : decode cX6_cannotStartItem 50 = .ok (.if_icmp .lt 7, 3) := by decide +kernel
theorem dX6_cannotStartItem_53 : decode cX6_cannotStartItem 53 = .ok (.iconst 1, 1) := by decide +kernel
theorem dX6_cannotStartItem_54 : decode cX6_cannotStartItem 54 = .ok (.goto 4, 3) := by decide +kernel
theorem dX6_cannotStartItem_57 : decode cX6_cannotStartItem 57 = .ok (.iconst 0, 1) := by decide +kernel
theorem dX6_cannotStartItem_58 : decode cX6_cannotStartItem 58 = .ok (.ireturn, 1) := by decide +kernel
theorem dX6_cannotStartItem_59 : decode cX6_cannotStartItem 59 = .ok (.aload_n 1, 1) := by decide +kernel
theorem dX6_cannotStartItem_60 : decode cX6_cannotStartItem 60 = .ok (.getfield 113, 3) := by decide +kernel
theorem dX6_cannotStartItem_63 : decode cX6_cannotStartItem 63 = .ok (.bipush 6, 2) := by decide +kernel
theorem dX6_cannotStartItem_65 : decode cX6_cannotStartItem 65 = .ok (.if_icmp .lt 7, 3) := by decide +kernel
theorem dX6_cannotStartItem_68 : decode cX6_cannotStartItem 68 = .ok (.iconst 1, 1) := by decide +kernel
theorem dX6_cannotStartItem_69 : decode cX6_cannotStartItem 69 = .ok (.goto 4, 3) := by decide +kernel
theorem dX6_cannotStartItem_72 : decode cX6_cannotStartItem 72 = .ok (.iconst 0, 1) := by decide +kernel
theorem dX6_cannotStartItem_73 : decode cX6_cannotStartItem 73 = .ok (.ireturn, 1) := by decide +kernel
theorem dX6_cannotStartItem_74 : decode cX6_cannotStartItem 74 = .ok (.aload_n 1, 1) := by decide +kernel
theorem dX6_cannotStartItem_75 : decode cX6_cannotStartItem 75 = .ok (.getfield 88, 3) := by decide +kernel
theorem dX6_cannotStartItem_78 : decode cX6_cannotStartItem 78 = .ok (.ifCond .eq 7, 3) := by decide +kernel
theorem dX6_cannotStartItem_81 : decode cX6_cannotStartItem 81 = .ok (.iconst 1, 1) := by decide +kernel
theorem dX6_cannotStartItem_82 : decode cX6_cannotStartItem 82 = .ok (.goto 4, 3) := by decide +kernel
theorem dX6_cannotStartItem_85 : decode cX6_cannotStartItem 85 = .ok (.iconst 0, 1) := by decide +kernel
theorem dX6_cannotStartItem_86 : decode cX6_cannotStartItem 86 = .ok (.ireturn, 1) := by decide +kernel
theorem dX6_cannotStartItem_87 : decode cX6_cannotStartItem 87 = .ok (.aload_n 1, 1) := by decide +kernel
theorem dX6_cannotStartItem_88 : decode cX6_cannotStartItem 88 = .ok (.getfield 116, 3) := by decide +kernel
theorem dX6_cannotStartItem_91 : decode cX6_cannotStartItem 91 = .ok (.bipush 8, 2) := by decide +kernel
theorem dX6_cannotStartItem_93 : decode cX6_cannotStartItem 93 = .ok (.if_icmp .lt 7, 3) := by decide +kernel
theorem dX6_cannotStartItem_96 : decode cX6_cannotStartItem 96 = .ok (.iconst 1, 1) := by decide +kernel
theorem dX6_cannotStartItem_97 : decode cX6_cannotStartItem 97 = .ok (.goto 4, 3) := by decide +kernel
theorem dX6_cannotStartItem_100 : decode cX6_cannotStartItem 100 = .ok (.iconst 0, 1) := by decide +kernel
theorem dX6_cannotStartItem_101 : decode cX6_cannotStartItem 101 = .ok (.ireturn, 1) := by decide +kernel
theorem dX6_cannotStartItem_102 : decode cX6_cannotStartItem 102 = .ok (.aload_n 1, 1) := by decide +kernel
theorem dX6_cannotStartItem_103 : decode cX6_cannotStartItem 103 = .ok (.getfield 119, 3) := by decide +kernel
theorem dX6_cannotStartItem_106 : decode cX6_cannotStartItem 106 = .ok (.iconst (-1), 1) := by decide +kernel
theorem dX6_cannotStartItem_107 : decode cX6_cannotStartItem 107 = .ok (.if_icmp .eq 7, 3) := by decide +kernel
theorem dX6_cannotStartItem_110 : decode cX6_cannotStartItem 110 = .ok (.iconst 1, 1) := by decide +kernel
theorem dX6_cannotStartItem_111 : decode cX6_cannotStartItem 111 = .ok (.goto 4, 3) := by decide +kernel
theorem dX6_cannotStartItem_114 : decode cX6_cannotStartItem 114 = .ok (.iconst 0, 1) := by decide +kernel
theorem dX6_cannotStartItem_115 : decode cX6_cannotStartItem 115 = .ok (.ireturn, 1) := by decide +kernel
theorem dX6_cannotStartItem_116 : decode cX6_cannotStartItem 116 = .ok (.aload_n 1, 1) := by decide +kernel
theorem dX6_cannotStartItem_117 : decode cX6_cannotStartItem 117 = .ok (.getfield 122, 3) := by decide +kernel
theorem dX6_cannotStartItem_120 : decode cX6_cannotStartItem 120 = .ok (.iconst (-1), 1) := by decide +kernel
theorem dX6_cannotStartItem_121 : decode cX6_cannotStartItem 121 = .ok (.if_icmp .eq 7, 3) := by decide +kernel
theorem dX6_cannotStartItem_124 : decode cX6_cannotStartItem 124 = .ok (.iconst 1, 1) := by decide +kernel
theorem dX6_cannotStartItem_125 : decode cX6_cannotStartItem 125 = .ok (.goto 4, 3) := by decide +kernel
theorem dX6_cannotStartItem_128 : decode cX6_cannotStartItem 128 = .ok (.iconst 0, 1) := by decide +kernel
theorem dX6_cannotStartItem_129 : decode cX6_cannotStartItem 129 = .ok (.ireturn, 1) := by decide +kernel
theorem dX6_cannotStartItem_130 : decode cX6_cannotStartItem 130 = .ok (.iconst 1, 1) := by decide +kernel
theorem dX6_cannotStartItem_131 : decode cX6_cannotStartItem 131 = .ok (.ireturn, 1) := by decide +kernel
theorem dX6_readList_0 : decode cX6_readList 0 = .ok (.aload_n 0, 1) := by decide +kernel
theorem dX6_readList_1 : decode cX6_readList 1 = .ok (.aload_n 1, 1) := by decide +kernel
theorem dX6_readList_2 : decode cX6_readList 2 = .ok (.invokevirtual 125, 3) := by decide +kernel
theorem dX6_readList_5 : decode cX6_readList 5 = .ok (.lstore_n 2, 1) := by decide +kernel
theorem dX6_readList_6 : decode cX6_readList 6 = .ok (.aload_n 0, 1) := by decide +kernel
theorem dX6_readList_7 : decode cX6_readList 7 = .ok (.bipush 61, 2) := by decide +kernel
theorem dX6_readList_9 : decode cX6_readList 9 = .ok (.invokevirtual 58, 3) := by decide +kernel
theorem dX6_readList_12 : decode cX6_readList 12 = .ok (.aload_n 0, 1) := by decide +kernel
theorem dX6_readList_13 : decode cX6_readList 13 = .ok (.getfield 29, 3) := by decide +kernel
theorem dX6_readList_16 : decode cX6_readList 16 = .ok (.ifCond .eq 4, 3) := by decide +kernel
theorem dX6_readList_19 : decode cX6_readList 19 = .ok (.return_, 1) := by decide +kernel
theorem dX6_readList_20 : decode cX6_readList 20 = .ok (.aload_n 1, 1) := by decide +kernel
theorem dX6_readList_21 : decode cX6_readList 21 = .ok (.lload_n 2, 1) := by decide +kernel
theorem dX6_readList_22 : decode cX6_readList 22 = .ok (.invokevirtual 129, 3) := by decide +kernel
theorem dX6_readList_25 : decode cX6_readList 25 = .ok (.aload_n 0, 1) := by decide +kernel
theorem dX6_readList_26 : decode cX6_readList 26 = .ok (.aload_n 1, 1) := by decide +kernel
theorem dX6_readList_27 : decode cX6_readList 27 = .ok (.invokevirtual 133, 3) := by decide +kernel
theorem dX6_readList_30 : decode cX6_readList 30 = .ok (.iconst 0, 1) := by decide +kernel
theorem dX6_readList_31 : decode cX6_readList 31 = .ok (.istore 4, 2) := by decide +kernel
theorem dX6_readList_33 : decode cX6_readList 33 = .ok (.iload 4, 2) := by decide +kernel
theorem dX6_readList_35 : decode cX6_readList 35 = .ok (.sipush 1400, 3) := by decide +kernel
theorem dX6_readList_38 : decode cX6_readList 38 = .ok (.if_icmp .ge 40, 3) := by decide +kernel
theorem dX6_readList_41 : decode cX6_readList 41 = .ok (.aload_n 0, 1) := by decide +kernel
theorem dX6_readList_42 : decode cX6_readList 42 = .ok (.getfield 29, 3) := by decide +kernel
theorem dX6_readList_45 : decode cX6_readList 45 = .ok (.ifCond .ne 33, 3) := by decide +kernel
theorem dX6_readList_48 : decode cX6_readList 48 = .ok (.aload_n 0, 1) := by decide +kernel
theorem dX6_readList_49 : decode cX6_readList 49 = .ok (.getfield 12, 3) := by decide +kernel
theorem dX6_readList_52 : decode cX6_readList 52 = .ok (.getfield 41, 3) := by decide +kernel
theorem dX6_readList_55 : decode cX6_readList 55 = .ok (.bipush 44, 2) := by decide +kernel
theorem dX6_readList_57 : decode cX6_readList 57 = .ok (.if_icmp .ne 21, 3) := by decide +kernel
theorem dX6_readList_60 : decode cX6_readList 60 = .ok (.aload_n 0, 1) := by decide +kernel
theorem dX6_readList_61 : decode cX6_readList 61 = .ok (.getfield 12, 3) := by decide +kernel
theorem dX6_readList_64 : decode cX6_readList 64 = .ok (.invokevirtual 48, 3) := by decide +kernel
theorem dX6_readList_67 : decode cX6_readList 67 = .ok (.aload_n 0, 1) := by decide +kernel
theorem dX6_readList_68 : decode cX6_readList 68 = .ok (.aload_n 1, 1) := by decide +kernel
theorem dX6_readList_69 : decode cX6_readList 69 = .ok (.invokevirtual 133, 3) := by decide +kernel
theorem dX6_readList_72 : decode cX6_readList 72 = .ok (.iinc 4 1, 3) := by decide +kernel
theorem dX6_readList_75 : decode cX6_readList 75 = .ok (.goto (-42), 3) := by decide +kernel
theorem dX6_readList_78 : decode cX6_readList 78 = .ok (.return_, 1) := by decide +kernel
theorem dX6_readPart_0 : decode cX6_readPart 0 = .ok (.aload_n 0, 1) := by decide +kernel
theorem dX6_readPart_1 : decode cX6_readPart 1 = .ok (.aload_n 1, 1) := by decide +kernel
theorem dX6_readPart_2 : decode cX6_readPart 2 = .ok (.invokevirtual 125, 3) := by decide +kernel
theorem dX6_readPart_5 : decode cX6_readPart 5 = .ok (.lstore_n 2, 1) := by decide +kernel
theorem dX6_readPart_6 : decode cX6_readPart 6 = .ok (.aload_n 0, 1) := by decide +kernel
theorem dX6_readPart_7 : decode cX6_readPart 7 = .ok (.iconst 1, 1) := by decide +kernel
theorem dX6_readPart_8 : decode cX6_readPart 8 = .ok (.sipush 200, 3) := by decide +kernel
theorem dX6_readPart_11 : decode cX6_readPart 11 = .ok (.invokevirtual 63, 3) := by decide +kernel
theorem dX6_readPart_14 : decode cX6_readPart 14 = .ok (.istore 4, 2) := by decide +kernel
theorem dX6_readPart_16 : decode cX6_readPart 16 = .ok (.aload_n 0, 1) := by decide +kernel
theorem dX6_readPart_17 : decode cX6_readPart 17 = .ok (.getfield 29, 3) := by decide +kernel
theorem dX6_readPart_20 : decode cX6_readPart 20 = .ok (.ifCond .ne 10, 3) := by decide +kernel
theorem dX6_readPart_23 : decode cX6_readPart 23 = .ok (.aload_n 1, 1) := by decide +kernel
theorem dX6_readPart_24 : decode cX6_readPart 24 = .ok (.lload_n 2, 1) := by decide +kernel
theorem dX6_readPart_25 : decode cX6_readPart 25 = .ok (.iload 4, 2) := by decide +kernel
theorem dX6_readPart_27 : decode cX6_readPart 27 = .ok (.invokevirtual 136, 3) := by decide +kernel
theorem dX6_readPart_30 : decode cX6_readPart 30 = .ok (.return_, 1) := by decide +kernel
theorem dX6_readE_0 : decode cX6_readE 0 = .ok (.aload_n 0, 1) := by decide +kernel
theorem dX6_readE_1 : decode cX6_readE 1 = .ok (.aload_n 1, 1) := by decide +kernel
theorem dX6_readE_2 : decode cX6_readE 2 = .ok (.iload_n 2, 1) := by decide +kernel
theorem dX6_readE_3 : decode cX6_readE 3 = .ok (.invokevirtual 140, 3) := by decide +kernel
theorem dX6_readE_6 : decode cX6_readE 6 = .ok (.iconst 0, 1) := by decide +kernel
theorem dX6_readE_7 : decode cX6_readE 7 = .ok (.istore_n 3, 1) := by decide +kernel
theorem dX6_readE_8 : decode cX6_readE 8 = .ok (.iload_n 3, 1) := by decide +kernel
theorem dX6_readE_9 : decode cX6_readE 9 = .ok (.sipush 1400, 3) := by decide +kernel
theorem dX6_readE_12 : decode cX6_readE 12 = .ok (.if_icmp .ge 53, 3) := by decide +kernel
theorem dX6_readE_15 : decode cX6_readE 15 = .ok (.aload_n 0, 1) := by decide +kernel
theorem dX6_readE_16 : decode cX6_readE 16 = .ok (.getfield 29, 3) := by decide +kernel
theorem dX6_readE_19 : decode cX6_readE 19 = .ok (.ifCond .ne 46, 3) := by decide +kernel
theorem dX6_readE_22 : decode cX6_readE 22 = .ok (.aload_n 0, 1) := by decide +kernel
theorem dX6_readE_23 : decode cX6_readE 23 = .ok (.getfield 12, 3) := by decide +kernel
theorem dX6_readE_26 : decode cX6_readE 26 = .ok (.getfield 41, 3) := by decide +kernel
theorem dX6_readE_29 : decode cX6_readE 29 = .ok (.sipush 207, 3) := by decide +kernel
theorem dX6_readE_32 : decode cX6_readE 32 = .ok (.if_icmp .ne 33, 3) := by decide +kernel
theorem dX6_readE_35 : decode cX6_readE 35 = .ok (.aload_n 0, 1) := by decide +kernel
theorem dX6_readE_36 : decode cX6_readE 36 = .ok (.getfield 12, 3) := by decide +kernel
theorem dX6_readE_39 : decode cX6_readE 39 = .ok (.invokevirtual 48, 3) := by decide +kernel
theorem dX6_readE_42 : decode cX6_readE 42 = .ok (.aload_n 0, 1) := by decide +kernel
theorem dX6_readE_43 : decode cX6_readE 43 = .ok (.aload_n 1, 1) := by decide +kernel
theorem dX6_readE_44 : decode cX6_readE 44 = .ok (.iload_n 2, 1) := by decide +kernel
theorem dX6_readE_45 : decode cX6_readE 45 = .ok (.invokevirtual 140, 3) := by decide +kernel
theorem dX6_readE_48 : decode cX6_readE 48 = .ok (.aload_n 0, 1) := by decide +kernel
theorem dX6_readE_49 : decode cX6_readE 49 = .ok (.getfield 25, 3) := by decide +kernel
theorem dX6_readE_52 : decode cX6_readE 52 = .ok (.sipush 207, 3) := by decide +kernel
theorem dX6_readE_55 : decode cX6_readE 55 = .ok (.iconst 0, 1) := by decide +kernel
theorem dX6_readE_56 : decode cX6_readE 56 = .ok (.invokevirtual 107, 3) := by decide +kernel
theorem dX6_readE_59 : decode cX6_readE 59 = .ok (.iinc 3 1, 3) := by decide +kernel
theorem dX6_readE_62 : decode cX6_readE 62 = .ok (.goto (-54), 3) := by decide +kernel
theorem dX6_readE_65 : decode cX6_readE 65 = .ok (.return_, 1) := by decide +kernel
theorem dX6_readBoth_0 : decode cX6_readBoth 0 = .ok (.aload_n 0, 1) := by decide +kernel
theorem dX6_readBoth_1 : decode cX6_readBoth 1 = .ok (.aload_n 1, 1) := by decide +kernel
theorem dX6_readBoth_2 : decode cX6_readBoth 2 = .ok (.iload_n 2, 1) := by decide +kernel
theorem dX6_readBoth_3 : decode cX6_readBoth 3 = .ok (.invokevirtual 143, 3) := by decide +kernel
theorem dX6_readBoth_6 : decode cX6_readBoth 6 = .ok (.iconst 0, 1) := by decide +kernel
theorem dX6_readBoth_7 : decode cX6_readBoth 7 = .ok (.istore_n 3, 1) := by decide +kernel
theorem dX6_readBoth_8 : decode cX6_readBoth 8 = .ok (.iload_n 3, 1) := by decide +kernel
theorem dX6_readBoth_9 : decode cX6_readBoth 9 = .ok (.sipush 1400, 3) := by decide +kernel
theorem dX6_readBoth_12 : decode cX6_readBoth 12 = .ok (.if_icmp .ge 53, 3) := by decide +kernel
theorem dX6_readBoth_15 : decode cX6_readBoth 15 = .ok (.aload_n 0, 1) := by decide +kernel
theorem dX6_readBoth_16 : decode cX6_readBoth 16 = .ok (.getfield 29, 3) := by decide +kernel
theorem dX6_readBoth_19 : decode cX6_readBoth 19 = .ok (.ifCond .ne 46, 3) := by decide +kernel
theorem dX6_readBoth_22 : decode cX6_readBoth 22 = .ok (.aload_n 0, 1) := by decide +kernel
theorem dX6_readBoth_23 : decode cX6_readBoth 23 = .ok (.getfield 12, 3) := by decide +kernel
theorem dX6_readBoth_26 : decode cX6_readBoth 26 = .ok (.getfield 41, 3) := by decide +kernel
theorem dX6_readBoth_29 : decode cX6_readBoth 29 = .ok (.sipush 208, 3) := by decide +kernel
theorem dX6_readBoth_32 : decode cX6_readBoth 32 = .ok (.if_icmp .ne 33, 3) := by decide +kernel
theorem dX6_readBoth_35 : decode cX6_readBoth 35 = .ok (.aload_n 0, 1) := by decide +kernel
theorem dX6_readBoth_36 : decode cX6_readBoth 36 = .ok (.getfield 12, 3) := by decide +kernel
theorem dX6_readBoth_39 : decode cX6_readBoth 39 = .ok (.invokevirtual 48, 3) := by decide +kernel
theorem dX6_readBoth_42 : decode cX6_readBoth 42 = .ok (.aload_n 0, 1) := by decide +kernel
theorem dX6_readBoth_43 : decode cX6_readBoth 43 = .ok (.aload_n 1, 1) := by decide +kernel
theorem dX6_readBoth_44 : decode cX6_readBoth 44 = .ok (.iload_n 2, 1) := by decide +kernel
theorem dX6_readBoth_45 : decode cX6_readBoth 45 = .ok (.invokevirtual 143, 3) := by decide +kernel
theorem dX6_readBoth_48 : decode cX6_readBoth 48 = .ok (.aload_n 0, 1) := by decide +kernel
theorem dX6_readBoth_49 : decode cX6_readBoth 49 = .ok (.getfield 25, 3) := by decide +kernel
theorem dX6_readBoth_52 : decode cX6_readBoth 52 = .ok (.sipush 208, 3) := by decide +kernel
theorem dX6_readBoth_55 : decode cX6_readBoth 55 = .ok (.iconst 0, 1) := by decide +kernel
theorem dX6_readBoth_56 : decode cX6_readBoth 56 = .ok (.invokevirtual 107, 3) := by decide +kernel
theorem dX6_readBoth_59 : decode cX6_readBoth 59 = .ok (.iinc 3 1, 3) := by decide +kernel
theorem dX6_readBoth_62 : decode cX6_readBoth 62 = .ok (.goto (-54), 3) := by decide +kernel
theorem dX6_readBoth_65 : decode cX6_readBoth 65 = .ok (.return_, 1) := by decide +kernel
theorem dX6_readOne_0 : decode cX6_readOne 0 = .ok (.iload_n 2, 1) := by decide +kernel
theorem dX6_readOne_1 : decode cX6_readOne 1 = .ok (.bipush 8, 2) := by decide +kernel
theorem dX6_readOne_3 : decode cX6_readOne 3 = .ok (.if_icmp .lt 10, 3) := by decide +kernel
theorem dX6_readOne_6 : decode cX6_readOne 6 = .ok (.aload_n 0, 1) := by decide +kernel
theorem dX6_readOne_7 : decode cX6_readOne 7 = .ok (.invokevirtual 55, 3) := by decide +kernel
theorem dX6_readOne_10 : decode cX6_readOne 10 = .ok (.goto 51, 3) := by decide +kernel
theorem dX6_readOne_13 : decode cX6_readOne 13 = .ok (.aload_n 0, 1) := by decide +kernel
theorem dX6_readOne_14 : decode cX6_readOne 14 = .ok (.getfield 12, 3) := by decide +kernel
theorem dX6_readOne_17 : decode cX6_readOne 17 = .ok (.getfield 41, 3) := by decide +kernel
theorem dX6_readOne_20 : decode cX6_readOne 20 = .ok (.sipush 209, 3) := by decide +kernel
theorem dX6_readOne_23 : decode cX6_readOne 23 = .ok (.if_icmp .ne 32, 3) := by decide +kernel
theorem dX6_readOne_26 : decode cX6_readOne 26 = .ok (.aload_n 0, 1) := by decide +kernel
theorem dX6_readOne_27 : decode cX6_readOne 27 = .ok (.getfield 12, 3) := by decide +kernel
theorem dX6_readOne_30 : decode cX6_readOne 30 = .ok (.invokevirtual 48, 3) := by decide +kernel
theorem dX6_readOne_33 : decode cX6_readOne 33 = .ok (.aload_n 0, 1) := by decide +kernel
theorem dX6_readOne_34 : decode cX6_readOne 34 = .ok (.aload_n 1, 1) := by decide +kernel
theorem dX6_readOne_35 : decode cX6_readOne 35 = .ok (.iload_n 2, 1) := by decide +kernel
theorem dX6_readOne_36 : decode cX6_readOne 36 = .ok (.iconst 1, 1) := by decide +kernel
theorem dX6_readOne_37 : decode cX6_readOne 37 = .ok (.iadd, 1) := by decide +kernel
theorem dX6_readOne_38 : decode cX6_readOne 38 = .ok (.invokevirtual 143, 3) := by decide +kernel
theorem dX6_readOne_41 : decode cX6_readOne 41 = .ok (.aload_n 0, 1) := by decide +kernel
theorem dX6_readOne_42 : decode cX6_readOne 42 = .ok (.getfield 25, 3) := by decide +kernel
theorem dX6_readOne_45 : decode cX6_readOne 45 = .ok (.sipush 209, 3) := by decide +kernel
theorem dX6_readOne_48 : decode cX6_readOne 48 = .ok (.iconst 0, 1) := by decide +kernel
theorem dX6_readOne_49 : decode cX6_readOne 49 = .ok (.invokevirtual 107, 3) := by decide +kernel
theorem dX6_readOne_52 : decode cX6_readOne 52 = .ok (.goto 9, 3) := by decide +kernel
theorem dX6_readOne_55 : decode cX6_readOne 55 = .ok (.aload_n 0, 1) := by decide +kernel
theorem dX6_readOne_56 : decode cX6_readOne 56 = .ok (.aload_n 1, 1) := by decide +kernel
theorem dX6_readOne_57 : decode cX6_readOne 57 = .ok (.iload_n 2, 1) := by decide +kernel
theorem dX6_readOne_58 : decode cX6_readOne 58 = .ok (.invokevirtual 146, 3) := by decide +kernel
theorem dX6_readOne_61 : decode cX6_readOne 61 = .ok (.return_, 1) := by decide +kernel
theorem dX6_readCompared_0 : decode cX6_readCompared 0 = .ok (.aload_n 0, 1) := by decide +kernel
theorem dX6_readCompared_1 : decode cX6_readCompared 1 = .ok (.aload_n 1, 1) := by decide +kernel
theorem dX6_readCompared_2 : decode cX6_readCompared 2 = .ok (.iload_n 2, 1) := by decide +kernel
theorem dX6_readCompared_3 : decode cX6_readCompared 3 = .ok (.invokevirtual 149, 3) := by decide +kernel
theorem dX6_readCompared_6 : decode cX6_readCompared 6 = .ok (.aload_n 0, 1) := by decide +kernel
theorem dX6_readCompared_7 : decode cX6_readCompared 7 = .ok (.getfield 12, 3) := by decide +kernel
theorem dX6_readCompared_10 : decode cX6_readCompared 10 = .ok (.getfield 41, 3) := by decide +kernel
theorem dX6_readCompared_13 : decode cX6_readCompared 13 = .ok (.istore_n 3, 1) := by decide +kernel
theorem dX6_readCompared_14 : decode cX6_readCompared 14 = .ok (.aload_n 0, 1) := by decide +kernel
theorem dX6_readCompared_15 : decode cX6_readCompared 15 = .ok (.getfield 29, 3) := by decide +kernel
theorem dX6_readCompared_18 : decode cX6_readCompared 18 = .ok (.ifCond .ne 43, 3) := by decide +kernel
theorem dX6_readCompared_21 : decode cX6_readCompared 21 = .ok (.iload_n 3, 1) := by decide +kernel
theorem dX6_readCompared_22 : decode cX6_readCompared 22 = .ok (.bipush 60, 2) := by decide +kernel
theorem dX6_readCompared_24 : decode cX6_readCompared 24 = .ok (.if_icmp .eq 15, 3) := by decide +kernel
theorem dX6_readCompared_27 : decode cX6_readCompared 27 = .ok (.iload_n 3, 1) := by decide +kernel
theorem dX6_readCompared_28 : decode cX6_readCompared 28 = .ok (.bipush 62, 2) := by decide +kernel
theorem dX6_readCompared_30 : decode cX6_readCompared 30 = .ok (.if_icmp .eq 9, 3) := by decide +kernel
theorem dX6_readCompared_33 : decode cX6_readCompared 33 = .ok (.iload_n 3, 1) := by decide +kernel
theorem dX6_readCompared_34 : decode cX6_readCompared 34 = .ok (.bipush 61, 2) := by decide +kernel
theorem dX6_readCompared_36 : decode cX6_readCompared 36 = .ok (.if_icmp .ne 25, 3) := by decide +kernel
theorem dX6_readCompared_39 : decode cX6_readCompared 39 = .ok (.aload_n 0, 1) := by decide +kernel
theorem dX6_readCompared_40 : decode cX6_readCompared 40 = .ok (.getfield 12, 3) := by decide +kernel
theorem dX6_readCompared_43 : decode cX6_readCompared 43 = .ok (.invokevirtual 48, 3) := by decide +kernel
theorem dX6_readCompared_46 : decode cX6_readCompared 46 = .ok (.aload_n 0, 1) := by decide +kernel
theorem dX6_readCompared_47 : decode cX6_readCompared 47 = .ok (.aload_n 1, 1) := by decide +kernel
theorem dX6_readCompared_48 : decode cX6_readCompared 48 = .ok (.iload_n 2, 1) := by decide +kernel
theorem dX6_readCompared_49 : decode cX6_readCompared 49 = .ok (.invokevirtual 149, 3) := by decide +kernel
theorem dX6_readCompared_52 : decode cX6_readCompared 52 = .ok (.aload_n 0, 1) := by decide +kernel
theorem dX6_readCompared_53 : decode cX6_readCompared 53 = .ok (.getfield 25, 3) := by decide +kernel
theorem dX6_readCompared_56 : decode cX6_readCompared 56 = .ok (.iload_n 3, 1) := by decide +kernel
theorem dX6_readCompared_57 : decode cX6_readCompared 57 = .ok (.iconst 0, 1) := by decide +kernel
theorem dX6_readCompared_58 : decode cX6_readCompared 58 = .ok (.invokevirtual 107, 3) := by decide +kernel
theorem dX6_readCompared_61 : decode cX6_readCompared 61 = .ok (.return_, 1) := by decide +kernel
theorem dX6_readSum_0 : decode cX6_readSum 0 = .ok (.aload_n 0, 1) := by decide +kernel
theorem dX6_readSum_1 : decode cX6_readSum 1 = .ok (.aload_n 1, 1) := by decide +kernel
theorem dX6_readSum_2 : decode cX6_readSum 2 = .ok (.iload_n 2, 1) := by decide +kernel
theorem dX6_readSum_3 : decode cX6_readSum 3 = .ok (.invokevirtual 152, 3) := by decide +kernel
theorem dX6_readSum_6 : decode cX6_readSum 6 = .ok (.iconst 0, 1) := by decide +kernel
theorem dX6_readSum_7 : decode cX6_readSum 7 = .ok (.istore_n 3, 1) := by decide +kernel
theorem dX6_readSum_8 : decode cX6_readSum 8 = .ok (.iload_n 3, 1) := by decide +kernel
theorem dX6_readSum_9 : decode cX6_readSum 9 = .ok (.sipush 1400, 3) := by decide +kernel
theorem dX6_readSum_12 : decode cX6_readSum 12 = .ok (.if_icmp .ge 63, 3) := by decide +kernel
theorem dX6_readSum_15 : decode cX6_readSum 15 = .ok (.aload_n 0, 1) := by decide +kernel
theorem dX6_readSum_16 : decode cX6_readSum 16 = .ok (.getfield 29, 3) := by decide +kernel
theorem dX6_readSum_19 : decode cX6_readSum 19 = .ok (.ifCond .ne 56, 3) := by decide +kernel
theorem dX6_readSum_22 : decode cX6_readSum 22 = .ok (.aload_n 0, 1) := by decide +kernel
theorem dX6_readSum_23 : decode cX6_readSum 23 = .ok (.getfield 12, 3) := by decide +kernel
theorem dX6_readSum_26 : decode cX6_readSum 26 = .ok (.getfield 41, 3) := by decide +kernel
theorem dX6_readSum_29 : decode cX6_readSum 29 = .ok (.istore 4, 2) := by decide +kernel
theorem dX6_readSum_31 : decode cX6_readSum 31 = .ok (.iload 4, 2) := by decide +kernel
theorem dX6_readSum_33 : decode cX6_readSum 33 = .ok (.bipush 43, 2) := by decide +kernel
theorem dX6_readSum_35 : decode cX6_readSum 35 = .ok (.if_icmp .eq 11, 3) := by decide +kernel
theorem dX6_readSum_38 : decode cX6_readSum 38 = .ok (.iload 4, 2) := by decide +kernel
theorem dX6_readSum_40 : decode cX6_readSum 40 = .ok (.bipush 45, 2) := by decide +kernel
theorem dX6_readSum_42 : decode cX6_readSum 42 = .ok (.if_icmp .eq 4, 3) := by decide +kernel
theorem dX6_readSum_45 : decode cX6_readSum 45 = .ok (.return_, 1) := by decide +kernel
theorem dX6_readSum_46 : decode cX6_readSum 46 = .ok (.aload_n 0, 1) := by decide +kernel
theorem dX6_readSum_47 : decode cX6_readSum 47 = .ok (.getfield 12, 3) := by decide +kernel
theorem dX6_readSum_50 : decode cX6_readSum 50 = .ok (.invokevirtual 48, 3) := by decide +kernel
theorem dX6_readSum_53 : decode cX6_readSum 53 = .ok (.aload_n 0, 1) := by decide +kernel
theorem dX6_readSum_54 : decode cX6_readSum 54 = .ok (.aload_n 1, 1) := by decide +kernel
theorem dX6_readSum_55 : decode cX6_readSum 55 = .ok (.iload_n 2, 1) := by decide +kernel
theorem dX6_readSum_56 : decode cX6_readSum 56 = .ok (.invokevirtual 152, 3) := by decide +kernel
theorem dX6_readSum_59 : decode cX6_readSum 59 = .ok (.aload_n 0, 1) := by decide +kernel
theorem dX6_readSum_60 : decode cX6_readSum 60 = .ok (.getfield 25, 3) := by decide +kernel
theorem dX6_readSum_63 : decode cX6_readSum 63 = .ok (.iload 4, 2) := by decide +kernel
theorem dX6_readSum_65 : decode cX6_readSum 65 = .ok (.iconst 0, 1) := by decide +kernel
theorem dX6_readSum_66 : decode cX6_readSum 66 = .ok (.invokevirtual 107, 3) := by decide +kernel
theorem dX6_readSum_69 : decode cX6_readSum 69 = .ok (.iinc 3 1, 3) := by decide +kernel
theorem dX6_readSum_72 : decode cX6_readSum 72 = .ok (.goto (-64), 3) := by decide +kernel
theorem dX6_readSum_75 : decode cX6_readSum 75 = .ok (.return_, 1) := by decide +kernel
theorem dX6_readLeaf_0 : decode cX6_readLeaf 0 = .ok (.aload_n 0, 1) := by decide +kernel
theorem dX6_readLeaf_1 : decode cX6_readLeaf 1 = .ok (.getfield 12, 3) := by decide +kernel
theorem dX6_readLeaf_4 : decode cX6_readLeaf 4 = .ok (.getfield 41, 3) := by decide +kernel
theorem dX6_readLeaf_7 : decode cX6_readLeaf 7 = .ok (.bipush 40, 2) := by decide +kernel
theorem dX6_readLeaf_9 : decode cX6_readLeaf 9 = .ok (.if_icmp .ne 27, 3) := by decide +kernel
theorem dX6_readLeaf_12 : decode cX6_readLeaf 12 = .ok (.aload_n 0, 1) := by decide +kernel
theorem dX6_readLeaf_13 : decode cX6_readLeaf 13 = .ok (.getfield 12, 3) := by decide +kernel
theorem dX6_readLeaf_16 : decode cX6_readLeaf 16 = .ok (.invokevirtual 48, 3) := by decide +kernel
theorem dX6_readLeaf_19 : decode cX6_readLeaf 19 = .ok (.aload_n 0, 1) := by decide +kernel
theorem dX6_readLeaf_20 : decode cX6_readLeaf 20 = .ok (.aload_n 1, 1) := by decide +kernel
theorem dX6_readLeaf_21 : decode cX6_readLeaf 21 = .ok (.iload_n 2, 1) := by decide +kernel
theorem dX6_readLeaf_22 : decode cX6_readLeaf 22 = .ok (.iconst 1, 1) := by decide +kernel
theorem dX6_readLeaf_23 : decode cX6_readLeaf 23 = .ok (.iadd, 1) := by decide +kernel
theorem dX6_readLeaf_24 : decode cX6_readLeaf 24 = .ok (.invokevirtual 103, 3) := by decide +kernel
theorem dX6_readLeaf_27 : decode cX6_readLeaf 27 = .ok (.aload_n 0, 1) := by decide +kernel
theorem dX6_readLeaf_28 : decode cX6_readLeaf 28 = .ok (.bipush 41, 2) := by decide +kernel
theorem dX6_readLeaf_30 : decode cX6_readLeaf 30 = .ok (.invokevirtual 58, 3) := by decide +kernel
theorem dX6_readLeaf_33 : decode cX6_readLeaf 33 = .ok (.goto 55, 3) := by decide +kernel
theorem dX6_readLeaf_36 : decode cX6_readLeaf 36 = .ok (.aload_n 0, 1) := by decide +kernel
theorem dX6_readLeaf_37 : decode cX6_readLeaf 37 = .ok (.getfield 12, 3) := by decide +kernel
theorem dX6_readLeaf_40 : decode cX6_readLeaf 40 = .ok (.getfield 41, 3) := by decide +kernel
theorem dX6_readLeaf_43 : decode cX6_readLeaf 43 = .ok (.invokestatic 155, 3) := by decide +kernel
theorem dX6_readLeaf_46 : decode cX6_readLeaf 46 = .ok (.ifCond .eq 13, 3) := by decide +kernel
theorem dX6_readLeaf_49 : decode cX6_readLeaf 49 = .ok (.aload_n 0, 1) := by decide +kernel
theorem dX6_readLeaf_50 : decode cX6_readLeaf 50 = .ok (.getfield 32, 3) := by decide +kernel
theorem dX6_readLeaf_53 : decode cX6_readLeaf 53 = .ok (.sipush 150, 3) := by decide +kernel
theorem dX6_readLeaf_56 : decode cX6_readLeaf 56 = .ok (.if_icmp .lt 10, 3) := by decide +kernel
theorem dX6_readLeaf_59 : decode cX6_readLeaf 59 = .ok (.aload_n 0, 1) := by decide +kernel
theorem dX6_readLeaf_60 : decode cX6_readLeaf 60 = .ok (.invokevirtual 55, 3) := by decide +kernel
theorem dX6_readLeaf_63 : decode cX6_readLeaf 63 = .ok (.goto 25, 3) := by decide +kernel
theorem dX6_readLeaf_66 : decode cX6_readLeaf 66 = .ok (.aload_n 0, 1) := by decide +kernel
theorem dX6_readLeaf_67 : decode cX6_readLeaf 67 = .ok (.dup, 1) := by decide +kernel
theorem dX6_readLeaf_68 : decode cX6_readLeaf 68 = .ok (.getfield 32, 3) := by decide +kernel
theorem dX6_readLeaf_71 : decode cX6_readLeaf 71 = .ok (.iconst 1, 1) := by decide +kernel
theorem dX6_readLeaf_72 : decode cX6_readLeaf 72 = .ok (.iadd, 1) := by decide +kernel
theorem dX6_readLeaf_73 : decode cX6_readLeaf 73 = .ok (.putfield 32, 3) := by decide +kernel
theorem dX6_readLeaf_76 : decode cX6_readLeaf 76 = .ok (.aload_n 0, 1) := by decide +kernel
theorem dX6_readLeaf_77 : decode cX6_readLeaf 77 = .ok (.aload_n 1, 1) := by decide +kernel
theorem dX6_readLeaf_78 : decode cX6_readLeaf 78 = .ok (.invokevirtual 159, 3) := by decide +kernel
theorem dX6_readLeaf_81 : decode cX6_readLeaf 81 = .ok (.aload_n 0, 1) := by decide +kernel
theorem dX6_readLeaf_82 : decode cX6_readLeaf 82 = .ok (.getfield 12, 3) := by decide +kernel
theorem dX6_readLeaf_85 : decode cX6_readLeaf 85 = .ok (.invokevirtual 48, 3) := by decide +kernel
theorem dX6_readLeaf_88 : decode cX6_readLeaf 88 = .ok (.return_, 1) := by decide +kernel
theorem dX6_isLeaf_0 : decode cX6_isLeaf 0 = .ok (.iload_n 0, 1) := by decide +kernel
theorem dX6_isLeaf_1 : decode cX6_isLeaf 1 = .ok (.iconst 2, 1) := by decide +kernel
theorem dX6_isLeaf_2 : decode cX6_isLeaf 2 = .ok (.if_icmp .eq 22, 3) := by decide +kernel
theorem dX6_isLeaf_5 : decode cX6_isLeaf 5 = .ok (.iload_n 0, 1) := by decide +kernel
theorem dX6_isLeaf_6 : decode cX6_isLeaf 6 = .ok (.iconst 3, 1) := by decide +kernel
theorem dX6_isLeaf_7 : decode cX6_isLeaf 7 = .ok (.if_icmp .eq 17, 3) := by decide +kernel
theorem dX6_isLeaf_10 : decode cX6_isLeaf 10 = .ok (.iload_n 0, 1) := by decide +kernel
theorem dX6_isLeaf_11 : decode cX6_isLeaf 11 = .ok (.sipush 210, 3) := by decide +kernel
theorem dX6_isLeaf_14 : decode cX6_isLeaf 14 = .ok (.if_icmp .lt 14, 3) := by decide +kernel
theorem dX6_isLeaf_17 : decode cX6_isLeaf 17 = .ok (.iload_n 0, 1) := by decide +kernel
theorem dX6_isLeaf_18 : decode cX6_isLeaf 18 = .ok (.sipush 214, 3) := by decide +kernel
theorem dX6_isLeaf_21 : decode cX6_isLeaf 21 = .ok (.if_icmp .gt 7, 3) := by decide +kernel
theorem dX6_isLeaf_24 : decode cX6_isLeaf 24 = .ok (.iconst 1, 1) := by decide +kernel
theorem dX6_isLeaf_25 : decode cX6_isLeaf 25 = .ok (.goto 4, 3) := by decide +kernel
theorem dX6_isLeaf_28 : decode cX6_isLeaf 28 = .ok (.iconst 0, 1) := by decide +kernel
theorem dX6_isLeaf_29 : decode cX6_isLeaf 29 = .ok (.ireturn, 1) := by decide +kernel
theorem dX6_addMeaning_0 : decode cX6_addMeaning 0 = .ok (.aload_n 0, 1) := by decide +kernel
theorem dX6_addMeaning_1 : decode cX6_addMeaning 1 = .ok (.getfield 12, 3) := by decide +kernel
theorem dX6_addMeaning_4 : decode cX6_addMeaning 4 = .ok (.getfield 41, 3) := by decide +kernel
theorem dX6_addMeaning_7 : decode cX6_addMeaning 7 = .ok (.istore_n 2, 1) := by decide +kernel
theorem dX6_addMeaning_8 : decode cX6_addMeaning 8 = .ok (.iload_n 2, 1) := by decide +kernel
theorem dX6_addMeaning_9 : decode cX6_addMeaning 9 = .ok (.iconst 2, 1) := by decide +kernel
theorem dX6_addMeaning_10 : decode cX6_addMeaning 10 = .ok (.if_icmp .ne 21, 3) := by decide +kernel
theorem dX6_addMeaning_13 : decode cX6_addMeaning 13 = .ok (.aload_n 0, 1) := by decide +kernel
theorem dX6_addMeaning_14 : decode cX6_addMeaning 14 = .ok (.getfield 25, 3) := by decide +kernel
theorem dX6_addMeaning_17 : decode cX6_addMeaning 17 = .ok (.iconst 2, 1) := by decide +kernel
theorem dX6_addMeaning_18 : decode cX6_addMeaning 18 = .ok (.aload_n 0, 1) := by decide +kernel
theorem dX6_addMeaning_19 : decode cX6_addMeaning 19 = .ok (.getfield 12, 3) := by decide +kernel
theorem dX6_addMeaning_22 : decode cX6_addMeaning 22 = .ok (.getfield 162, 3) := by decide +kernel
theorem dX6_addMeaning_25 : decode cX6_addMeaning 25 = .ok (.invokevirtual 107, 3) := by decide +kernel
theorem dX6_addMeaning_28 : decode cX6_addMeaning 28 = .ok (.goto 120, 3) := by decide +kernel
theorem dX6_addMeaning_31 : decode cX6_addMeaning 31 = .ok (.iload_n 2, 1) := by decide +kernel
theorem dX6_addMeaning_32 : decode cX6_addMeaning 32 = .ok (.iconst 3, 1) := by decide +kernel
theorem dX6_addMeaning_33 : decode cX6_addMeaning 33 = .ok (.if_icmp .ne 58, 3) := by decide +kernel
theorem dX6_addMeaning_36 : decode cX6_addMeaning 36 = .ok (.aload_n 0, 1) := by decide +kernel
theorem dX6_addMeaning_37 : decode cX6_addMeaning 37 = .ok (.aload_n 0, 1) := by decide +kernel
theorem dX6_addMeaning_38 : decode cX6_addMeaning 38 = .ok (.getfield 99, 3) := by decide +kernel
theorem dX6_addMeaning_41 : decode cX6_addMeaning 41 = .ok (.ifCond .eq 9, 3) := by decide +kernel
theorem dX6_addMeaning_44 : decode cX6_addMeaning 44 = .ok (.sipush 201, 3) := by decide +kernel
theorem dX6_addMeaning_47 : decode cX6_addMeaning 47 = .ok (.goto 6, 3) := by decide +kernel
theorem dX6_addMeaning_50 : decode cX6_addMeaning 50 = .ok (.sipush 202, 3) := by decide +kernel
theorem dX6_addMeaning_53 : decode cX6_addMeaning 53 = .ok (.aload_n 0, 1) := by decide +kernel
theorem dX6_addMeaning_54 : decode cX6_addMeaning 54 = .ok (.getfield 99, 3) := by decide +kernel
theorem dX6_addMeaning_57 : decode cX6_addMeaning 57 = .ok (.ifCond .eq 17, 3) := by decide +kernel
theorem dX6_addMeaning_60 : decode cX6_addMeaning 60 = .ok (.aload_n 1, 1) := by decide +kernel
theorem dX6_addMeaning_61 : decode cX6_addMeaning 61 = .ok (.aload_n 0, 1) := by decide +kernel
theorem dX6_addMeaning_62 : decode cX6_addMeaning 62 = .ok (.getfield 12, 3) := by decide +kernel
theorem dX6_addMeaning_65 : decode cX6_addMeaning 65 = .ok (.getfield 165, 3) := by decide +kernel
theorem dX6_addMeaning_68 : decode cX6_addMeaning 68 = .ok (.invokevirtual 169, 3) := by decide +kernel
theorem dX6_addMeaning_71 : decode cX6_addMeaning 71 = .ok (.goto 14, 3) := by decide +kernel
theorem dX6_addMeaning_74 : decode cX6_addMeaning 74 = .ok (.aload_n 1, 1) := by decide +kernel
theorem dX6_addMeaning_75 : decode cX6_addMeaning 75 = .ok (.aload_n 0, 1) := by decide +kernel
theorem dX6_addMeaning_76 : decode cX6_addMeaning 76 = .ok (.getfield 12, 3) := by decide +kernel
theorem dX6_addMeaning_79 : decode cX6_addMeaning 79 = .ok (.getfield 165, 3) := by decide +kernel
theorem dX6_addMeaning_82 : decode cX6_addMeaning 82 = .ok (.invokevirtual 173, 3) := by decide +kernel
theorem dX6_addMeaning_85 : decode cX6_addMeaning 85 = .ok (.invokevirtual 176, 3) := by decide +kernel
theorem dX6_addMeaning_88 : decode cX6_addMeaning 88 = .ok (.goto 60, 3) := by decide +kernel
theorem dX6_addMeaning_91 : decode cX6_addMeaning 91 = .ok (.aload_n 0, 1) := by decide +kernel
theorem dX6_addMeaning_92 : decode cX6_addMeaning 92 = .ok (.getfield 99, 3) := by decide +kernel
theorem dX6_addMeaning_95 : decode cX6_addMeaning 95 = .ok (.iload_n 2, 1) := by decide +kernel
theorem dX6_addMeaning_96 : decode cX6_addMeaning 96 = .ok (.sipush 210, 3) := by decide +kernel
theorem dX6_addMeaning_99 : decode cX6_addMeaning 99 = .ok (.if_icmp .eq 17, 3) := by decide +kernel
theorem dX6_addMeaning_102 : decode cX6_addMeaning 102 = .ok (.iload_n 2, 1) := by decide +kernel
theorem dX6_addMeaning_103 : decode cX6_addMeaning 103 = .ok (.sipush 211, 3) := by decide +kernel
theorem dX6_addMeaning_106 : decode cX6_addMeaning 106 = .ok (.if_icmp .eq 10, 3) := by decide +kernel
theorem dX6_addMeaning_109 : decode cX6_addMeaning 109 = .ok (.iload_n 2, 1) := by decide +kernel
theorem dX6_addMeaning_110 : decode cX6_addMeaning 110 = .ok (.sipush 212, 3) := by decide +kernel
theorem dX6_addMeaning_113 : decode cX6_addMeaning 113 = .ok (.if_icmp .ne 7, 3) := by decide +kernel
theorem dX6_addMeaning_116 : decode cX6_addMeaning 116 = .ok (.iconst 1, 1) := by decide +kernel
theorem dX6_addMeaning_117 : decode cX6_addMeaning 117 = .ok (.goto 4, 3) := by decide +kernel
theorem dX6_addMeaning_120 : decode cX6_addMeaning 120 = .ok (.iconst 0, 1) := by decide +kernel
theorem dX6_addMeaning_121 : decode cX6_addMeaning 121 = .ok (.if_icmp .ne 15, 3) := by decide +kernel
theorem dX6_addMeaning_124 : decode cX6_addMeaning 124 = .ok (.aload_n 0, 1) := by decide +kernel
theorem dX6_addMeaning_125 : decode cX6_addMeaning 125 = .ok (.getfield 25, 3) := by decide +kernel
theorem dX6_addMeaning_128 : decode cX6_addMeaning 128 = .ok (.iload_n 2, 1) := by decide +kernel
theorem dX6_addMeaning_129 : decode cX6_addMeaning 129 = .ok (.iconst 0, 1) := by decide +kernel
theorem dX6_addMeaning_130 : decode cX6_addMeaning 130 = .ok (.invokevirtual 107, 3) := by decide +kernel
theorem dX6_addMeaning_133 : decode cX6_addMeaning 133 = .ok (.goto 15, 3) := by decide +kernel
theorem dX6_addMeaning_136 : decode cX6_addMeaning 136 = .ok (.aload_n 0, 1) := by decide +kernel
theorem dX6_addMeaning_137 : decode cX6_addMeaning 137 = .ok (.iconst 4, 1) := by decide +kernel
theorem dX6_addMeaning_138 : decode cX6_addMeaning 138 = .ok (.aload_n 0, 1) := by decide +kernel
theorem dX6_addMeaning_139 : decode cX6_addMeaning 139 = .ok (.getfield 12, 3) := by decide +kernel
theorem dX6_addMeaning_142 : decode cX6_addMeaning 142 = .ok (.getfield 62, 3) := by decide +kernel
theorem dX6_addMeaning_145 : decode cX6_addMeaning 145 = .ok (.invokevirtual 71, 3) := by decide +kernel
theorem dX6_addMeaning_148 : decode cX6_addMeaning 148 = .ok (.return_, 1) := by decide +kernel
theorem dX6_addNamed_0 : decode cX6_addNamed 0 = .ok (.iload_n 2, 1) := by decide +kernel
theorem dX6_addNamed_1 : decode cX6_addNamed 1 = .ok (.iconst (-1), 1) := by decide +kernel
theorem dX6_addNamed_2 : decode cX6_addNamed 2 = .ok (.if_icmp .ne 18, 3) := by decide +kernel
theorem dX6_addNamed_5 : decode cX6_addNamed 5 = .ok (.aload_n 0, 1) := by decide +kernel
theorem dX6_addNamed_6 : decode cX6_addNamed 6 = .ok (.iconst 4, 1) := by decide +kernel
theorem dX6_addNamed_7 : decode cX6_addNamed 7 = .ok (.aload_n 0, 1) := by decide +kernel
theorem dX6_addNamed_8 : decode cX6_addNamed 8 = .ok (.getfield 12, 3) := by decide +kernel
theorem dX6_addNamed_11 : decode cX6_addNamed 11 = .ok (.getfield 62, 3) := by decide +kernel
theorem dX6_addNamed_14 : decode cX6_addNamed 14 = .ok (.invokevirtual 71, 3) := by decide +kernel
theorem dX6_addNamed_17 : decode cX6_addNamed 17 = .ok (.goto 12, 3) := by decide +kernel
theorem dX6_addNamed_20 : decode cX6_addNamed 20 = .ok (.aload_n 0, 1) := by decide +kernel
theorem dX6_addNamed_21 : decode cX6_addNamed 21 = .ok (.getfield 25, 3) := by decide +kernel
theorem dX6_addNamed_24 : decode cX6_addNamed 24 = .ok (.iload_n 1, 1) := by decide +kernel
theorem dX6_addNamed_25 : decode cX6_addNamed 25 = .ok (.iload_n 2, 1) := by decide +kernel
theorem dX6_addNamed_26 : decode cX6_addNamed 26 = .ok (.invokevirtual 107, 3) := by decide +kernel
theorem dX6_addNamed_29 : decode cX6_addNamed 29 = .ok (.return_, 1) := by decide +kernel
theorem dX6_take_0 : decode cX6_take 0 = .ok (.aload_n 0, 1) := by decide +kernel
theorem dX6_take_1 : decode cX6_take 1 = .ok (.getfield 29, 3) := by decide +kernel
theorem dX6_take_4 : decode cX6_take 4 = .ok (.ifCond .eq 4, 3) := by decide +kernel
theorem dX6_take_7 : decode cX6_take 7 = .ok (.return_, 1) := by decide +kernel
theorem dX6_take_8 : decode cX6_take 8 = .ok (.aload_n 0, 1) := by decide +kernel
theorem dX6_take_9 : decode cX6_take 9 = .ok (.getfield 12, 3) := by decide +kernel
theorem dX6_take_12 : decode cX6_take 12 = .ok (.getfield 41, 3) := by decide +kernel
theorem dX6_take_15 : decode cX6_take 15 = .ok (.iload_n 1, 1) := by decide +kernel
theorem dX6_take_16 : decode cX6_take 16 = .ok (.if_icmp .ne 13, 3) := by decide +kernel
theorem dX6_take_19 : decode cX6_take 19 = .ok (.aload_n 0, 1) := by decide +kernel
theorem dX6_take_20 : decode cX6_take 20 = .ok (.getfield 12, 3) := by decide +kernel
theorem dX6_take_23 : decode cX6_take 23 = .ok (.invokevirtual 48, 3) := by decide +kernel
theorem dX6_take_26 : decode cX6_take 26 = .ok (.goto 7, 3) := by decide +kernel
theorem dX6_take_29 : decode cX6_take 29 = .ok (.aload_n 0, 1) := by decide +kernel
theorem dX6_take_30 : decode cX6_take 30 = .ok (.invokevirtual 55, 3) := by decide +kernel
theorem dX6_take_33 : decode cX6_take 33 = .ok (.return_, 1) := by decide +kernel
theorem dX6_takeNumber_0 : decode cX6_takeNumber 0 = .ok (.aload_n 0, 1) := by decide +kernel
theorem dX6_takeNumber_1 : decode cX6_takeNumber 1 = .ok (.getfield 12, 3) := by decide +kernel
theorem dX6_takeNumber_4 : decode cX6_takeNumber 4 = .ok (.getfield 162, 3) := by decide +kernel
theorem dX6_takeNumber_7 : decode cX6_takeNumber 7 = .ok (.istore_n 3, 1) := by decide +kernel
theorem dX6_takeNumber_8 : decode cX6_takeNumber 8 = .ok (.aload_n 0, 1) := by decide +kernel
theorem dX6_takeNumber_9 : decode cX6_takeNumber 9 = .ok (.getfield 12, 3) := by decide +kernel
theorem dX6_takeNumber_12 : decode cX6_takeNumber 12 = .ok (.getfield 41, 3) := by decide +kernel
theorem dX6_takeNumber_15 : decode cX6_takeNumber 15 = .ok (.iconst 2, 1) := by decide +kernel
theorem dX6_takeNumber_16 : decode cX6_takeNumber 16 = .ok (.if_icmp .eq 10, 3) := by decide +kernel
theorem dX6_takeNumber_19 : decode cX6_takeNumber 19 = .ok (.aload_n 0, 1) := by decide +kernel
theorem dX6_takeNumber_20 : decode cX6_takeNumber 20 = .ok (.invokevirtual 55, 3) := by decide +kernel
theorem dX6_takeNumber_23 : decode cX6_takeNumber 23 = .ok (.goto 25, 3) := by decide +kernel
theorem dX6_takeNumber_26 : decode cX6_takeNumber 26 = .ok (.iload_n 3, 1) := by decide +kernel
theorem dX6_takeNumber_27 : decode cX6_takeNumber 27 = .ok (.iload_n 1, 1) := by decide +kernel
theorem dX6_takeNumber_28 : decode cX6_takeNumber 28 = .ok (.if_icmp .lt 8, 3) := by decide +kernel
theorem dX6_takeNumber_31 : decode cX6_takeNumber 31 = .ok (.iload_n 3, 1) := by decide +kernel
theorem dX6_takeNumber_32 : decode cX6_takeNumber 32 = .ok (.iload_n 2, 1) := by decide +kernel
theorem dX6_takeNumber_33 : decode cX6_takeNumber 33 = .ok (.if_icmp .le 15, 3) := by decide +kernel
theorem dX6_takeNumber_36 : decode cX6_takeNumber 36 = .ok (.aload_n 0, 1) := by decide +kernel
theorem dX6_takeNumber_37 : decode cX6_takeNumber 37 = .ok (.iconst 5, 1) := by decide +kernel
theorem dX6_takeNumber_38 : decode cX6_takeNumber 38 = .ok (.aload_n 0, 1) := by decide +kernel
theorem dX6_takeNumber_39 : decode cX6_takeNumber 39 = .ok (.getfield 12, 3) := by decide +kernel
theorem dX6_takeNumber_42 : decode cX6_takeNumber 42 = .ok (.getfield 62, 3) := by decide +kernel
theorem dX6_takeNumber_45 : decode cX6_takeNumber 45 = .ok (.invokevirtual 71, 3) := by decide +kernel
theorem dX6_takeNumber_48 : decode cX6_takeNumber 48 = .ok (.aload_n 0, 1) := by decide +kernel
theorem dX6_takeNumber_49 : decode cX6_takeNumber 49 = .ok (.getfield 12, 3) := by decide +kernel
theorem dX6_takeNumber_52 : decode cX6_takeNumber 52 = .ok (.invokevirtual 48, 3) := by decide +kernel
theorem dX6_takeNumber_55 : decode cX6_takeNumber 55 = .ok (.aload_n 0, 1) := by decide +kernel
theorem dX6_takeNumber_56 : decode cX6_takeNumber 56 = .ok (.getfield 29, 3) := by decide +kernel
theorem dX6_takeNumber_59 : decode cX6_takeNumber 59 = .ok (.ifCond .ne 7, 3) := by decide +kernel
theorem dX6_takeNumber_62 : decode cX6_takeNumber 62 = .ok (.iload_n 3, 1) := by decide +kernel
theorem dX6_takeNumber_63 : decode cX6_takeNumber 63 = .ok (.goto 4, 3) := by decide +kernel
theorem dX6_takeNumber_66 : decode cX6_takeNumber 66 = .ok (.iconst 0, 1) := by decide +kernel
theorem dX6_takeNumber_67 : decode cX6_takeNumber 67 = .ok (.ireturn, 1) := by decide +kernel
theorem dX6_takeNewName_0 : decode cX6_takeNewName 0 = .ok (.aload_n 0, 1) := by decide +kernel
theorem dX6_takeNewName_1 : decode cX6_takeNewName 1 = .ok (.getfield 12, 3) := by decide +kernel
theorem dX6_takeNewName_4 : decode cX6_takeNewName 4 = .ok (.getfield 165, 3) := by decide +kernel
theorem dX6_takeNewName_7 : decode cX6_takeNewName 7 = .ok (.lstore_n 2, 1) := by decide +kernel
theorem dX6_takeNewName_8 : decode cX6_takeNewName 8 = .ok (.aload_n 0, 1) := by decide +kernel
theorem dX6_takeNewName_9 : decode cX6_takeNewName 9 = .ok (.getfield 12, 3) := by decide +kernel
theorem dX6_takeNewName_12 : decode cX6_takeNewName 12 = .ok (.getfield 41, 3) := by decide +kernel
theorem dX6_takeNewName_15 : decode cX6_takeNewName 15 = .ok (.iconst 3, 1) := by decide +kernel
theorem dX6_takeNewName_16 : decode cX6_takeNewName 16 = .ok (.if_icmp .eq 10, 3) := by decide +kernel
theorem dX6_takeNewName_19 : decode cX6_takeNewName 19 = .ok (.aload_n 0, 1) := by decide +kernel
theorem dX6_takeNewName_20 : decode cX6_takeNewName 20 = .ok (.invokevirtual 55, 3) := by decide +kernel
theorem dX6_takeNewName_23 : decode cX6_takeNewName 23 = .ok (.goto 33, 3) := by decide +kernel
theorem dX6_takeNewName_26 : decode cX6_takeNewName 26 = .ok (.aload_n 1, 1) := by decide +kernel
theorem dX6_takeNewName_27 : decode cX6_takeNewName 27 = .ok (.lload_n 2, 1) := by decide +kernel
theorem dX6_takeNewName_28 : decode cX6_takeNewName 28 = .ok (.invokevirtual 169, 3) := by decide +kernel
theorem dX6_takeNewName_31 : decode cX6_takeNewName 31 = .ok (.iconst (-1), 1) := by decide +kernel
theorem dX6_takeNewName_32 : decode cX6_takeNewName 32 = .ok (.if_icmp .ne 12, 3) := by decide +kernel
theorem dX6_takeNewName_35 : decode cX6_takeNewName 35 = .ok (.aload_n 1, 1) := by decide +kernel
theorem dX6_takeNewName_36 : decode cX6_takeNewName 36 = .ok (.lload_n 2, 1) := by decide +kernel
theorem dX6_takeNewName_37 : decode cX6_takeNewName 37 = .ok (.invokevirtual 173, 3) := by decide +kernel
theorem dX6_takeNewName_40 : decode cX6_takeNewName 40 = .ok (.iconst (-1), 1) := by decide +kernel
theorem dX6_takeNewName_41 : decode cX6_takeNewName 41 = .ok (.if_icmp .eq 15, 3) := by decide +kernel
theorem dX6_takeNewName_44 : decode cX6_takeNewName 44 = .ok (.aload_n 0, 1) := by decide +kernel
theorem dX6_takeNewName_45 : decode cX6_takeNewName 45 = .ok (.iconst 3, 1) := by decide +kernel
theorem dX6_takeNewName_46 : decode cX6_takeNewName 46 = .ok (.aload_n 0, 1) := by decide +kernel
theorem dX6_takeNewName_47 : decode cX6_takeNewName 47 = .ok (.getfield 12, 3) := by decide +kernel
theorem dX6_takeNewName_50 : decode cX6_takeNewName 50 = .ok (.getfield 62, 3) := by decide +kernel
theorem dX6_takeNewName_53 : decode cX6_takeNewName 53 = .ok (.invokevirtual 71, 3) := by decide +kernel
theorem dX6_takeNewName_56 : decode cX6_takeNewName 56 = .ok (.aload_n 0, 1) := by decide +kernel
theorem dX6_takeNewName_57 : decode cX6_takeNewName 57 = .ok (.getfield 12, 3) := by decide +kernel
theorem dX6_takeNewName_60 : decode cX6_takeNewName 60 = .ok (.invokevirtual 48, 3) := by decide +kernel
theorem dX6_takeNewName_63 : decode cX6_takeNewName 63 = .ok (.lload_n 2, 1) := by decide +kernel
theorem dX6_takeNewName_64 : decode cX6_takeNewName 64 = .ok (.lreturn, 1) := by decide +kernel
theorem dX6_takeListed_0 : decode cX6_takeListed 0 = .ok (.aload_n 0, 1) := by decide +kernel
theorem dX6_takeListed_1 : decode cX6_takeListed 1 = .ok (.getfield 12, 3) := by decide +kernel
theorem dX6_takeListed_4 : decode cX6_takeListed 4 = .ok (.getfield 41, 3) := by decide +kernel
theorem dX6_takeListed_7 : decode cX6_takeListed 7 = .ok (.iconst 3, 1) := by decide +kernel
theorem dX6_takeListed_8 : decode cX6_takeListed 8 = .ok (.if_icmp .ne 10, 3) := by decide +kernel
theorem dX6_takeListed_11 : decode cX6_takeListed 11 = .ok (.aload_n 1, 1) := by decide +kernel
theorem dX6_takeListed_12 : decode cX6_takeListed 12 = .ok (.invokevirtual 179, 3) := by decide +kernel
theorem dX6_takeListed_15 : decode cX6_takeListed 15 = .ok (.ifCond .eq 10, 3) := by decide +kernel
theorem dX6_takeListed_18 : decode cX6_takeListed 18 = .ok (.aload_n 0, 1) := by decide +kernel
theorem dX6_takeListed_19 : decode cX6_takeListed 19 = .ok (.invokevirtual 55, 3) := by decide +kernel
theorem dX6_takeListed_22 : decode cX6_takeListed 22 = .ok (.goto 49, 3) := by decide +kernel
theorem dX6_takeListed_25 : decode cX6_takeListed 25 = .ok (.aload_n 1, 1) := by decide +kernel
theorem dX6_takeListed_26 : decode cX6_takeListed 26 = .ok (.aload_n 1, 1) := by decide +kernel
theorem dX6_takeListed_27 : decode cX6_takeListed 27 = .ok (.getfield 110, 3) := by decide +kernel
theorem dX6_takeListed_30 : decode cX6_takeListed 30 = .ok (.iconst 1, 1) := by decide +kernel
theorem dX6_takeListed_31 : decode cX6_takeListed 31 = .ok (.isub, 1) := by decide +kernel
theorem dX6_takeListed_32 : decode cX6_takeListed 32 = .ok (.aload_n 0, 1) := by decide +kernel
theorem dX6_takeListed_33 : decode cX6_takeListed 33 = .ok (.getfield 12, 3) := by decide +kernel
theorem dX6_takeListed_36 : decode cX6_takeListed 36 = .ok (.getfield 165, 3) := by decide +kernel
theorem dX6_takeListed_39 : decode cX6_takeListed 39 = .ok (.invokevirtual 183, 3) := by decide +kernel
theorem dX6_takeListed_42 : decode cX6_takeListed 42 = .ok (.ifCond .eq 18, 3) := by decide +kernel
theorem dX6_takeListed_45 : decode cX6_takeListed 45 = .ok (.aload_n 0, 1) := by decide +kernel
theorem dX6_takeListed_46 : decode cX6_takeListed 46 = .ok (.iconst 3, 1) := by decide +kernel
theorem dX6_takeListed_47 : decode cX6_takeListed 47 = .ok (.aload_n 0, 1) := by decide +kernel
theorem dX6_takeListed_48 : decode cX6_takeListed 48 = .ok (.getfield 12, 3) := by decide +kernel
theorem dX6_takeListed_51 : decode cX6_takeListed 51 = .ok (.getfield 62, 3) := by decide +kernel
theorem dX6_takeListed_54 : decode cX6_takeListed 54 = .ok (.invokevirtual 71, 3) := by decide +kernel
theorem dX6_takeListed_57 : decode cX6_takeListed 57 = .ok (.goto 14, 3) := by decide +kernel
theorem dX6_takeListed_60 : decode cX6_takeListed 60 = .ok (.aload_n 1, 1) := by decide +kernel
theorem dX6_takeListed_61 : decode cX6_takeListed 61 = .ok (.aload_n 0, 1) := by decide +kernel
theorem dX6_takeListed_62 : decode cX6_takeListed 62 = .ok (.getfield 12, 3) := by decide +kernel
theorem dX6_takeListed_65 : decode cX6_takeListed 65 = .ok (.getfield 165, 3) := by decide +kernel
theorem dX6_takeListed_68 : decode cX6_takeListed 68 = .ok (.invokevirtual 187, 3) := by decide +kernel
theorem dX6_takeListed_71 : decode cX6_takeListed 71 = .ok (.aload_n 0, 1) := by decide +kernel
theorem dX6_takeListed_72 : decode cX6_takeListed 72 = .ok (.getfield 12, 3) := by decide +kernel
theorem dX6_takeListed_75 : decode cX6_takeListed 75 = .ok (.invokevirtual 48, 3) := by decide +kernel
theorem dX6_takeListed_78 : decode cX6_takeListed 78 = .ok (.return_, 1) := by decide +kernel
theorem dX6_refuse_0 : decode cX6_refuse 0 = .ok (.aload_n 0, 1) := by decide +kernel
theorem dX6_refuse_1 : decode cX6_refuse 1 = .ok (.aload_n 0, 1) := by decide +kernel
theorem dX6_refuse_2 : decode cX6_refuse 2 = .ok (.getfield 12, 3) := by decide +kernel
theorem dX6_refuse_5 : decode cX6_refuse 5 = .ok (.getfield 41, 3) := by decide +kernel
theorem dX6_refuse_8 : decode cX6_refuse 8 = .ok (.iconst 1, 1) := by decide +kernel
theorem dX6_refuse_9 : decode cX6_refuse 9 = .ok (.if_icmp .ne 7, 3) := by decide +kernel
theorem dX6_refuse_12 : decode cX6_refuse 12 = .ok (.iconst 1, 1) := by decide +kernel
theorem dX6_refuse_13 : decode cX6_refuse 13 = .ok (.goto 4, 3) := by decide +kernel
theorem dX6_refuse_16 : decode cX6_refuse 16 = .ok (.iconst 2, 1) := by decide +kernel
theorem dX6_refuse_17 : decode cX6_refuse 17 = .ok (.aload_n 0, 1) := by decide +kernel
theorem dX6_refuse_18 : decode cX6_refuse 18 = .ok (.getfield 12, 3) := by decide +kernel
theorem dX6_refuse_21 : decode cX6_refuse 21 = .ok (.getfield 62, 3) := by decide +kernel
theorem dX6_refuse_24 : decode cX6_refuse 24 = .ok (.invokevirtual 71, 3) := by decide +kernel
theorem dX6_refuse_27 : decode cX6_refuse 27 = .ok (.return_, 1) := by decide +kernel
theorem dX6_fail_0 : decode cX6_fail 0 = .ok (.aload_n 0, 1) := by decide +kernel
theorem dX6_fail_1 : decode cX6_fail 1 = .ok (.getfield 29, 3) := by decide +kernel
theorem dX6_fail_4 : decode cX6_fail 4 = .ok (.ifCond .ne 13, 3) := by decide +kernel
theorem dX6_fail_7 : decode cX6_fail 7 = .ok (.aload_n 0, 1) := by decide +kernel
theorem dX6_fail_8 : decode cX6_fail 8 = .ok (.iload_n 1, 1) := by decide +kernel
theorem dX6_fail_9 : decode cX6_fail 9 = .ok (.putfield 29, 3) := by decide +kernel
theorem dX6_fail_12 : decode cX6_fail 12 = .ok (.aload_n 0, 1) := by decide +kernel
theorem dX6_fail_13 : decode cX6_fail 13 = .ok (.iload_n 2, 1) := by decide +kernel
theorem dX6_fail_14 : decode cX6_fail 14 = .ok (.putfield 18, 3) := by decide +kernel
theorem dX6_fail_17 : decode cX6_fail 17 = .ok (.return_, 1) := by decide +kernel
theorem dX7_init_0 : decode cX7_init 0 = .ok (.aload_n 0, 1) := by decide +kernel
theorem dX7_init_1 : decode cX7_init 1 = .ok (.invokespecial 3, 3) := by decide +kernel
theorem dX7_init_4 : decode cX7_init 4 = .ok (.aload_n 0, 1) := by decide +kernel
theorem dX7_init_5 : decode cX7_init 5 = .ok (.bipush 9, 2) := by decide +kernel
theorem dX7_init_7 : decode cX7_init 7 = .ok (.newarray .int, 2) := by decide +kernel
theorem dX7_init_9 : decode cX7_init 9 = .ok (.putfield 9, 3) := by decide +kernel
theorem dX7_init_12 : decode cX7_init 12 = .ok (.aload_n 0, 1) := by decide +kernel
theorem dX7_init_13 : decode cX7_init 13 = .ok (.bipush 45, 2) := by decide +kernel
theorem dX7_init_15 : decode cX7_init 15 = .ok (.newarray .boolean, 2) := by decide +kernel
theorem dX7_init_17 : decode cX7_init 17 = .ok (.putfield 15, 3) := by decide +kernel
theorem dX7_init_20 : decode cX7_init 20 = .ok (.aload_n 0, 1) := by decide +kernel
theorem dX7_init_21 : decode cX7_init 21 = .ok (.bipush 9, 2) := by decide +kernel
theorem dX7_init_23 : decode cX7_init 23 = .ok (.newarray .int, 2) := by decide +kernel
theorem dX7_init_25 : decode cX7_init 25 = .ok (.putfield 19, 3) := by decide +kernel
theorem dX7_init_28 : decode cX7_init 28 = .ok (.aload_n 0, 1) := by decide +kernel
theorem dX7_init_29 : decode cX7_init 29 = .ok (.bipush 120, 2) := by decide +kernel
theorem dX7_init_31 : decode cX7_init 31 = .ok (.newarray .int, 2) := by decide +kernel
theorem dX7_init_33 : decode cX7_init 33 = .ok (.putfield 22, 3) := by decide +kernel
theorem dX7_init_36 : decode cX7_init 36 = .ok (.aload_n 0, 1) := by decide +kernel
theorem dX7_init_37 : decode cX7_init 37 = .ok (.bipush 120, 2) := by decide +kernel
theorem dX7_init_39 : decode cX7_init 39 = .ok (.newarray .int, 2) := by decide +kernel
theorem dX7_init_41 : decode cX7_init 41 = .ok (.putfield 25, 3) := by decide +kernel
theorem dX7_init_44 : decode cX7_init 44 = .ok (.aload_n 0, 1) := by decide +kernel
theorem dX7_init_45 : decode cX7_init 45 = .ok (.bipush 120, 2) := by decide +kernel
theorem dX7_init_47 : decode cX7_init 47 = .ok (.newarray .long, 2) := by decide +kernel
theorem dX7_init_49 : decode cX7_init 49 = .ok (.putfield 28, 3) := by decide +kernel
theorem dX7_init_52 : decode cX7_init 52 = .ok (.aload_n 0, 1) := by decide +kernel
theorem dX7_init_53 : decode cX7_init 53 = .ok (.bipush 120, 2) := by decide +kernel
theorem dX7_init_55 : decode cX7_init 55 = .ok (.newarray .long, 2) := by decide +kernel
theorem dX7_init_57 : decode cX7_init 57 = .ok (.putfield 32, 3) := by decide +kernel
theorem dX7_init_60 : decode cX7_init 60 = .ok (.iconst 0, 1) := by decide +kernel
theorem dX7_init_61 : decode cX7_init 61 = .ok (.istore_n 1, 1) := by decide +kernel
theorem dX7_init_62 : decode cX7_init 62 = .ok (.iload_n 1, 1) := by decide +kernel
theorem dX7_init_63 : decode cX7_init 63 = .ok (.bipush 9, 2) := by decide +kernel
theorem dX7_init_65 : decode cX7_init 65 = .ok (.if_icmp .ge 16, 3) := by decide +kernel
theorem dX7_init_68 : decode cX7_init 68 = .ok (.aload_n 0, 1) := by decide +kernel
theorem dX7_init_69 : decode cX7_init 69 = .ok (.getfield 9, 3) := by decide +kernel
theorem dX7_init_72 : decode cX7_init 72 = .ok (.iload_n 1, 1) := by decide +kernel
theorem dX7_init_73 : decode cX7_init 73 = .ok (.iconst (-1), 1) := by decide +kernel
theorem dX7_init_74 : decode cX7_init 74 = .ok (.iastore, 1) := by decide +kernel
theorem dX7_init_75 : decode cX7_init 75 = .ok (.iinc 1 1, 3) := by decide +kernel
theorem dX7_init_78 : decode cX7_init 78 = .ok (.goto (-16), 3) := by decide +kernel
theorem dX7_init_81 : decode cX7_init 81 = .ok (.return_, 1) := by decide +kernel
theorem dX7_allow_0 : decode cX7_allow 0 = .ok (.aload_n 0, 1) := by decide +kernel
theorem dX7_allow_1 : decode cX7_allow 1 = .ok (.getfield 15, 3) := by decide +kernel
theorem dX7_allow_4 : decode cX7_allow 4 = .ok (.iload_n 2, 1) := by decide +kernel
theorem dX7_allow_5 : decode cX7_allow 5 = .ok (.iconst 5, 1) := by decide +kernel
theorem dX7_allow_6 : decode cX7_allow 6 = .ok (.imul, 1) := by decide +kernel
theorem dX7_allow_7 : decode cX7_allow 7 = .ok (.iload_n 1, 1) := by decide +kernel
theorem dX7_allow_8 : decode cX7_allow 8 = .ok (.iadd, 1) := by decide +kernel
theorem dX7_allow_9 : decode cX7_allow 9 = .ok (.iload_n 3, 1) := by decide +kernel
theorem dX7_allow_10 : decode cX7_allow 10 = .ok (.bastore, 1) := by decide +kernel
theorem dX7_allow_11 : decode cX7_allow 11 = .ok (.return_, 1) := by decide +kernel
theorem dX7_plan_0 : decode cX7_plan 0 = .ok (.aload_n 0, 1) := by decide +kernel
theorem dX7_plan_1 : decode cX7_plan 1 = .ok (.aload_n 1, 1) := by decide +kernel
theorem dX7_plan_2 : decode cX7_plan 2 = .ok (.invokevirtual 35, 3) := by decide +kernel
theorem dX7_plan_5 : decode cX7_plan 5 = .ok (.aload_n 0, 1) := by decide +kernel
theorem dX7_plan_6 : decode cX7_plan 6 = .ok (.iconst 1, 1) := by decide +kernel
theorem dX7_plan_7 : decode cX7_plan 7 = .ok (.putfield 39, 3) := by decide +kernel
theorem dX7_plan_10 : decode cX7_plan 10 = .ok (.aload_n 0, 1) := by decide +kernel
theorem dX7_plan_11 : decode cX7_plan 11 = .ok (.getfield 28, 3) := by decide +kernel
theorem dX7_plan_14 : decode cX7_plan 14 = .ok (.iconst 0, 1) := by decide +kernel
theorem dX7_plan_15 : decode cX7_plan 15 = .ok (.lconst 0, 1) := by decide +kernel
theorem dX7_plan_16 : decode cX7_plan 16 = .ok (.lastore, 1) := by decide +kernel
theorem dX7_plan_17 : decode cX7_plan 17 = .ok (.iconst 0, 1) := by decide +kernel
theorem dX7_plan_18 : decode cX7_plan 18 = .ok (.istore_n 2, 1) := by decide +kernel
theorem dX7_plan_19 : decode cX7_plan 19 = .ok (.iload_n 2, 1) := by decide +kernel
theorem dX7_plan_20 : decode cX7_plan 20 = .ok (.aload_n 1, 1) := by decide +kernel
theorem dX7_plan_21 : decode cX7_plan 21 = .ok (.getfield 43, 3) := by decide +kernel
theorem dX7_plan_24 : decode cX7_plan 24 = .ok (.if_icmp .ge 83, 3) := by decide +kernel
theorem dX7_plan_27 : decode cX7_plan 27 = .ok (.aload_n 1, 1) := by decide +kernel
theorem dX7_plan_28 : decode cX7_plan 28 = .ok (.getfield 48, 3) := by decide +kernel
theorem dX7_plan_31 : decode cX7_plan 31 = .ok (.aload_n 0, 1) := by decide +kernel
theorem dX7_plan_32 : decode cX7_plan 32 = .ok (.getfield 19, 3) := by decide +kernel
theorem dX7_plan_35 : decode cX7_plan 35 = .ok (.iload_n 2, 1) := by decide +kernel
theorem dX7_plan_36 : decode cX7_plan 36 = .ok (.iaload, 1) := by decide +kernel
theorem dX7_plan_37 : decode cX7_plan 37 = .ok (.iaload, 1) := by decide +kernel
theorem dX7_plan_38 : decode cX7_plan 38 = .ok (.istore_n 3, 1) := by decide +kernel
theorem dX7_plan_39 : decode cX7_plan 39 = .ok (.iload_n 2, 1) := by decide +kernel
theorem dX7_plan_40 : decode cX7_plan 40 = .ok (.ifCond .eq 20, 3) := by decide +kernel
theorem dX7_plan_43 : decode cX7_plan 43 = .ok (.aload_n 1, 1) := by decide +kernel
theorem dX7_plan_44 : decode cX7_plan 44 = .ok (.getfield 48, 3) := by decide +kernel
theorem dX7_plan_47 : decode cX7_plan 47 = .ok (.aload_n 0, 1) := by decide +kernel
theorem dX7_plan_48 : decode cX7_plan 48 = .ok (.getfield 19, 3) := by decide +kernel
theorem dX7_plan_51 : decode cX7_plan 51 = .ok (.iload_n 2, 1) := by decide +kernel
theorem dX7_plan_52 : decode cX7_plan 52 = .ok (.iconst 1, 1) := by decide +kernel
theorem dX7_plan_53 : decode cX7_plan 53 = .ok (.isub, 1) := by decide +kernel
theorem dX7_plan_54 : decode cX7_plan 54 = .ok (.iaload, 1) := by decide +kernel
theorem dX7_plan_55 : decode cX7_plan 55 = .ok (.iaload, 1) := by decide +kernel
theorem dX7_plan_56 : decode cX7_plan 56 = .ok (.iload_n 3, 1) := by decide +kernel
theorem dX7_plan_57 : decode cX7_plan 57 = .ok (.if_icmp .eq 44, 3) := by decide +kernel
theorem dX7_plan_60 : decode cX7_plan 60 = .ok (.aload_n 0, 1) := by decide +kernel
theorem dX7_plan_61 : decode cX7_plan 61 = .ok (.iload_n 2, 1) := by decide +kernel
theorem dX7_plan_62 : decode cX7_plan 62 = .ok (.ifCond .le 26, 3) := by decide +kernel
theorem dX7_plan_65 : decode cX7_plan 65 = .ok (.aload_n 1, 1) := by decide +kernel
theorem dX7_plan_66 : decode cX7_plan 66 = .ok (.getfield 48, 3) := by decide +kernel
theorem dX7_plan_69 : decode cX7_plan 69 = .ok (.aload_n 0, 1) := by decide +kernel
theorem dX7_plan_70 : decode cX7_plan 70 = .ok (.getfield 19, 3) := by decide +kernel
theorem dX7_plan_73 : decode cX7_plan 73 = .ok (.iload_n 2, 1) := by decide +kernel
theorem dX7_plan_74 : decode cX7_plan 74 = .ok (.iconst 1, 1) := by decide +kernel
theorem dX7_plan_75 : decode cX7_plan 75 = .ok (.isub, 1) := by decide +kernel
theorem dX7_plan_76 : decode cX7_plan 76 = .ok (.iaload, 1) := by decide +kernel
theorem dX7_plan_77 : decode cX7_plan 77 = .ok (.iaload, 1) := by decide +kernel
theorem dX7_plan_78 : decode cX7_plan 78 = .ok (.iload_n 3, 1) := by decide +kernel
theorem dX7_plan_79 : decode cX7_plan 79 = .ok (.iconst 1, 1) := by decide +kernel
theorem dX7_plan_80 : decode cX7_plan 80 = .ok (.isub, 1) := by decide +kernel
theorem dX7_plan_81 : decode cX7_plan 81 = .ok (.if_icmp .ne 7, 3) := by decide +kernel
theorem dX7_plan_84 : decode cX7_plan 84 = .ok (.iconst 1, 1) := by decide +kernel
theorem dX7_plan_85 : decode cX7_plan 85 = .ok (.goto 4, 3) := by decide +kernel
theorem dX7_plan_88 : decode cX7_plan 88 = .ok (.iconst 0, 1) := by decide +kernel
theorem dX7_plan_89 : decode cX7_plan 89 = .ok (.invokevirtual 51, 3) := by decide +kernel
theorem dX7_plan_92 : decode cX7_plan 92 = .ok (.aload_n 0, 1) := by decide +kernel
theorem dX7_plan_93 : decode cX7_plan 93 = .ok (.aload_n 1, 1) := by decide +kernel
theorem dX7_plan_94 : decode cX7_plan 94 = .ok (.iload_n 2, 1) := by decide +kernel
theorem dX7_plan_95 : decode cX7_plan 95 = .ok (.iload_n 3, 1) := by decide +kernel
theorem dX7_plan_96 : decode cX7_plan 96 = .ok (.iconst 0, 1) := by decide +kernel
theorem dX7_plan_97 : decode cX7_plan 97 = .ok (.lconst 0, 1) := by decide +kernel
theorem dX7_plan_98 : decode cX7_plan 98 = .ok (.invokevirtual 55, 3) := by decide +kernel
theorem dX7_plan_101 : decode cX7_plan 101 = .ok (.iinc 2 1, 3) := by decide +kernel
theorem dX7_plan_104 : decode cX7_plan 104 = .ok (.goto (-85), 3) := by decide +kernel
theorem dX7_plan_107 : decode cX7_plan 107 = .ok (.aload_n 0, 1) := by decide +kernel
theorem dX7_plan_108 : decode cX7_plan 108 = .ok (.getfield 39, 3) := by decide +kernel
theorem dX7_plan_111 : decode cX7_plan 111 = .ok (.ifCond .ne 6, 3) := by decide +kernel
theorem dX7_plan_114 : decode cX7_plan 114 = .ok (.bipush (-2), 2) := by decide +kernel
theorem dX7_plan_116 : decode cX7_plan 116 = .ok (.ireturn, 1) := by decide +kernel
theorem dX7_plan_117 : decode cX7_plan 117 = .ok (.aload_n 0, 1) := by decide +kernel
theorem dX7_plan_118 : decode cX7_plan 118 = .ok (.invokevirtual 59, 3) := by decide +kernel
theorem dX7_plan_121 : decode cX7_plan 121 = .ok (.aload_n 0, 1) := by decide +kernel
theorem dX7_plan_122 : decode cX7_plan 122 = .ok (.aload_n 1, 1) := by decide +kernel
theorem dX7_plan_123 : decode cX7_plan 123 = .ok (.getfield 43, 3) := by decide +kernel
theorem dX7_plan_126 : decode cX7_plan 126 = .ok (.aload_n 0, 1) := by decide +kernel
theorem dX7_plan_127 : decode cX7_plan 127 = .ok (.getfield 28, 3) := by decide +kernel
theorem dX7_plan_130 : decode cX7_plan 130 = .ok (.iconst 0, 1) := by decide +kernel
theorem dX7_plan_131 : decode cX7_plan 131 = .ok (.laload, 1) := by decide +kernel
theorem dX7_plan_132 : decode cX7_plan 132 = .ok (.invokevirtual 62, 3) := by decide +kernel
theorem dX7_plan_135 : decode cX7_plan 135 = .ok (.aload_n 0, 1) := by decide +kernel
theorem dX7_plan_136 : decode cX7_plan 136 = .ok (.getfield 28, 3) := by decide +kernel
theorem dX7_plan_139 : decode cX7_plan 139 = .ok (.iconst 0, 1) := by decide +kernel
theorem dX7_plan_140 : decode cX7_plan 140 = .ok (.laload, 1) := by decide +kernel
theorem dX7_plan_141 : decode cX7_plan 141 = .ok (.bipush 27, 2) := by decide +kernel
theorem dX7_plan_143 : decode cX7_plan 143 = .ok (.lshr, 1) := by decide +kernel
theorem dX7_plan_144 : decode cX7_plan 144 = .ok (.l2i, 1) := by decide +kernel
theorem dX7_plan_145 : decode cX7_plan 145 = .ok (.ireturn, 1) := by decide +kernel
theorem dX7_orderByDay_0 : decode cX7_orderByDay 0 = .ok (.iconst 0, 1) := by decide +kernel
theorem dX7_orderByDay_1 : decode cX7_orderByDay 1 = .ok (.istore_n 2, 1) := by decide +kernel
theorem dX7_orderByDay_2 : decode cX7_orderByDay 2 = .ok (.iload_n 2, 1) := by decide +kernel
theorem dX7_orderByDay_3 : decode cX7_orderByDay 3 = .ok (.aload_n 1, 1) := by decide +kernel
theorem dX7_orderByDay_4 : decode cX7_orderByDay 4 = .ok (.getfield 43, 3) := by decide +kernel
theorem dX7_orderByDay_7 : decode cX7_orderByDay 7 = .ok (.if_icmp .ge 64, 3) := by decide +kernel
theorem dX7_orderByDay_10 : decode cX7_orderByDay 10 = .ok (.iload_n 2, 1) := by decide +kernel
theorem dX7_orderByDay_11 : decode cX7_orderByDay 11 = .ok (.istore_n 3, 1) := by decide +kernel
theorem dX7_orderByDay_12 : decode cX7_orderByDay 12 = .ok (.iload_n 3, 1) := by decide +kernel
theorem dX7_orderByDay_13 : decode cX7_orderByDay 13 = .ok (.ifCond .le 45, 3) := by decide +kernel
theorem dX7_orderByDay_16 : decode cX7_orderByDay 16 = .ok (.aload_n 1, 1) := by decide +kernel
theorem dX7_orderByDay_17 : decode cX7_orderByDay 17 = .ok (.getfield 48, 3) := by decide +kernel
theorem dX7_orderByDay_20 : decode cX7_orderByDay 20 = .ok (.aload_n 0, 1) := by decide +kernel
theorem dX7_orderByDay_21 : decode cX7_orderByDay 21 = .ok (.getfield 19, 3) := by decide +kernel
theorem dX7_orderByDay_24 : decode cX7_orderByDay 24 = .ok (.iload_n 3, 1) := by decide +kernel
theorem dX7_orderByDay_25 : decode cX7_orderByDay 25 = .ok (.iconst 1, 1) := by decide +kernel
theorem dX7_orderByDay_26 : decode cX7_orderByDay 26 = .ok (.isub, 1) := by decide +kernel
theorem dX7_orderByDay_27 : decode cX7_orderByDay 27 = .ok (.iaload, 1) := by decide +kernel
theorem dX7_orderByDay_28 : decode cX7_orderByDay 28 = .ok (.iaload, 1) := by decide +kernel
theorem dX7_orderByDay_29 : decode cX7_orderByDay 29 = .ok (.aload_n 1, 1) := by decide +kernel
theorem dX7_orderByDay_30 : decode cX7_orderByDay 30 = .ok (.getfield 48, 3) := by decide +kernel
theorem dX7_orderByDay_33 : decode cX7_orderByDay 33 = .ok (.iload_n 2, 1) := by decide +kernel
theorem dX7_orderByDay_34 : decode cX7_orderByDay 34 = .ok (.iaload, 1) := by decide +kernel
theorem dX7_orderByDay_35 : decode cX7_orderByDay 35 = .ok (.if_icmp .le 23, 3) := by decide +kernel
theorem dX7_orderByDay_38 : decode cX7_orderByDay 38 = .ok (.aload_n 0, 1) := by decide +kernel
theorem dX7_orderByDay_39 : decode cX7_orderByDay 39 = .ok (.getfield 19, 3) := by decide +kernel
theorem dX7_orderByDay_42 : decode cX7_orderByDay 42 = .ok (.iload_n 3, 1) := by decide +kernel
theorem dX7_orderByDay_43 : decode cX7_orderByDay 43 = .ok (.aload_n 0, 1) := by decide +kernel
theorem dX7_orderByDay_44 : decode cX7_orderByDay 44 = .ok (.getfield 19, 3) := by decide +kernel
theorem dX7_orderByDay_47 : decode cX7_orderByDay 47 = .ok (.iload_n 3, 1) := by decide +kernel
theorem dX7_orderByDay_48 : decode cX7_orderByDay 48 = .ok (.iconst 1, 1) := by decide +kernel
theorem dX7_orderByDay_49 : decode cX7_orderByDay 49 = .ok (.isub, 1) := by decide +kernel
theorem dX7_orderByDay_50 : decode cX7_orderByDay 50 = .ok (.iaload, 1) := by decide +kernel
theorem dX7_orderByDay_51 : decode cX7_orderByDay 51 = .ok (.iastore, 1) := by decide +kernel
theorem dX7_orderByDay_52 : decode cX7_orderByDay 52 = .ok (.iinc 3 (-1), 3) := by decide +kernel
theorem dX7_orderByDay_55 : decode cX7_orderByDay 55 = .ok (.goto (-43), 3) := by decide +kernel
theorem dX7_orderByDay_58 : decode cX7_orderByDay 58 = .ok (.aload_n 0, 1) := by decide +kernel
theorem dX7_orderByDay_59 : decode cX7_orderByDay 59 = .ok (.getfield 19, 3) := by decide +kernel
theorem dX7_orderByDay_62 : decode cX7_orderByDay 62 = .ok (.iload_n 3, 1) := by decide +kernel
theorem dX7_orderByDay_63 : decode cX7_orderByDay 63 = .ok (.iload_n 2, 1) := by decide +kernel
theorem dX7_orderByDay_64 : decode cX7_orderByDay 64 = .ok (.iastore, 1) := by decide +kernel
theorem dX7_orderByDay_65 : decode cX7_orderByDay 65 = .ok (.iinc 2 1, 3) := by decide +kernel
theorem dX7_orderByDay_68 : decode cX7_orderByDay 68 = .ok (.goto (-66), 3) := by decide +kernel
theorem dX7_orderByDay_71 : decode cX7_orderByDay 71 = .ok (.return_, 1) := by decide +kernel
theorem dX7_startDay_0 : decode cX7_startDay 0 = .ok (.iload_n 1, 1) := by decide +kernel
theorem dX7_startDay_1 : decode cX7_startDay 1 = .ok (.ifCond .ne 7, 3) := by decide +kernel
theorem dX7_startDay_4 : decode cX7_startDay 4 = .ok (.aload_n 0, 1) := by decide +kernel
theorem dX7_startDay_5 : decode cX7_startDay 5 = .ok (.invokevirtual 59, 3) := by decide +kernel
theorem dX7_startDay_8 : decode cX7_startDay 8 = .ok (.aload_n 0, 1) := by decide +kernel
theorem dX7_startDay_9 : decode cX7_startDay 9 = .ok (.getfield 25, 3) := by decide +kernel
theorem dX7_startDay_12 : decode cX7_startDay 12 = .ok (.astore_n 2, 1) := by decide +kernel
theorem dX7_startDay_13 : decode cX7_startDay 13 = .ok (.aload_n 0, 1) := by decide +kernel
theorem dX7_startDay_14 : decode cX7_startDay 14 = .ok (.getfield 32, 3) := by decide +kernel
theorem dX7_startDay_17 : decode cX7_startDay 17 = .ok (.astore_n 3, 1) := by decide +kernel
theorem dX7_startDay_18 : decode cX7_startDay 18 = .ok (.aload_n 0, 1) := by decide +kernel
theorem dX7_startDay_19 : decode cX7_startDay 19 = .ok (.aload_n 0, 1) := by decide +kernel
theorem dX7_startDay_20 : decode cX7_startDay 20 = .ok (.getfield 22, 3) := by decide +kernel
theorem dX7_startDay_23 : decode cX7_startDay 23 = .ok (.putfield 25, 3) := by decide +kernel
theorem dX7_startDay_26 : decode cX7_startDay 26 = .ok (.aload_n 0, 1) := by decide +kernel
theorem dX7_startDay_27 : decode cX7_startDay 27 = .ok (.aload_n 0, 1) := by decide +kernel
theorem dX7_startDay_28 : decode cX7_startDay 28 = .ok (.getfield 28, 3) := by decide +kernel
theorem dX7_startDay_31 : decode cX7_startDay 31 = .ok (.putfield 32, 3) := by decide +kernel
theorem dX7_startDay_34 : decode cX7_startDay 34 = .ok (.aload_n 0, 1) := by decide +kernel
theorem dX7_startDay_35 : decode cX7_startDay 35 = .ok (.aload_n 0, 1) := by decide +kernel
theorem dX7_startDay_36 : decode cX7_startDay 36 = .ok (.getfield 39, 3) := by decide +kernel
theorem dX7_startDay_39 : decode cX7_startDay 39 = .ok (.putfield 66, 3) := by decide +kernel
theorem dX7_startDay_42 : decode cX7_startDay 42 = .ok (.aload_n 0, 1) := by decide +kernel
theorem dX7_startDay_43 : decode cX7_startDay 43 = .ok (.aload_n 2, 1) := by decide +kernel
theorem dX7_startDay_44 : decode cX7_startDay 44 = .ok (.putfield 22, 3) := by decide +kernel
theorem dX7_startDay_47 : decode cX7_startDay 47 = .ok (.aload_n 0, 1) := by decide +kernel
theorem dX7_startDay_48 : decode cX7_startDay 48 = .ok (.aload_n 3, 1) := by decide +kernel
theorem dX7_startDay_49 : decode cX7_startDay 49 = .ok (.putfield 28, 3) := by decide +kernel
theorem dX7_startDay_52 : decode cX7_startDay 52 = .ok (.aload_n 0, 1) := by decide +kernel
theorem dX7_startDay_53 : decode cX7_startDay 53 = .ok (.iconst 0, 1) := by decide +kernel
theorem dX7_startDay_54 : decode cX7_startDay 54 = .ok (.putfield 39, 3) := by decide +kernel
theorem dX7_startDay_57 : decode cX7_startDay 57 = .ok (.return_, 1) := by decide +kernel
theorem dX7_sendAllHome_0 : decode cX7_sendAllHome 0 = .ok (.iconst 1, 1) := by decide +kernel
theorem dX7_sendAllHome_1 : decode cX7_sendAllHome 1 = .ok (.istore_n 1, 1) := by decide +kernel
theorem dX7_sendAllHome_2 : decode cX7_sendAllHome 2 = .ok (.iload_n 1, 1) := by decide +kernel
theorem dX7_sendAllHome_3 : decode cX7_sendAllHome 3 = .ok (.aload_n 0, 1) := by decide +kernel
theorem dX7_sendAllHome_4 : decode cX7_sendAllHome 4 = .ok (.getfield 39, 3) := by decide +kernel
theorem dX7_sendAllHome_7 : decode cX7_sendAllHome 7 = .ok (.if_icmp .ge 30, 3) := by decide +kernel
theorem dX7_sendAllHome_10 : decode cX7_sendAllHome 10 = .ok (.aload_n 0, 1) := by decide +kernel
theorem dX7_sendAllHome_11 : decode cX7_sendAllHome 11 = .ok (.getfield 28, 3) := by decide +kernel
theorem dX7_sendAllHome_14 : decode cX7_sendAllHome 14 = .ok (.iconst 0, 1) := by decide +kernel
theorem dX7_sendAllHome_15 : decode cX7_sendAllHome 15 = .ok (.aload_n 0, 1) := by decide +kernel
theorem dX7_sendAllHome_16 : decode cX7_sendAllHome 16 = .ok (.getfield 28, 3) := by decide +kernel
theorem dX7_sendAllHome_19 : decode cX7_sendAllHome 19 = .ok (.iconst 0, 1) := by decide +kernel
theorem dX7_sendAllHome_20 : decode cX7_sendAllHome 20 = .ok (.laload, 1) := by decide +kernel
theorem dX7_sendAllHome_21 : decode cX7_sendAllHome 21 = .ok (.aload_n 0, 1) := by decide +kernel
theorem dX7_sendAllHome_22 : decode cX7_sendAllHome 22 = .ok (.getfield 28, 3) := by decide +kernel
theorem dX7_sendAllHome_25 : decode cX7_sendAllHome 25 = .ok (.iload_n 1, 1) := by decide +kernel
theorem dX7_sendAllHome_26 : decode cX7_sendAllHome 26 = .ok (.laload, 1) := by decide +kernel
theorem dX7_sendAllHome_27 : decode cX7_sendAllHome 27 = .ok (.invokestatic 69, 3) := by decide +kernel
theorem dX7_sendAllHome_30 : decode cX7_sendAllHome 30 = .ok (.lastore, 1) := by decide +kernel
theorem dX7_sendAllHome_31 : decode cX7_sendAllHome 31 = .ok (.iinc 1 1, 3) := by decide +kernel
theorem dX7_sendAllHome_34 : decode cX7_sendAllHome 34 = .ok (.goto (-32), 3) := by decide +kernel
theorem dX7_sendAllHome_37 : decode cX7_sendAllHome 37 = .ok (.aload_n 0, 1) := by decide +kernel
theorem dX7_sendAllHome_38 : decode cX7_sendAllHome 38 = .ok (.getfield 22, 3) := by decide +kernel
theorem dX7_sendAllHome_41 : decode cX7_sendAllHome 41 = .ok (.iconst 0, 1) := by decide +kernel
theorem dX7_sendAllHome_42 : decode cX7_sendAllHome 42 = .ok (.iconst 0, 1) := by decide +kernel
theorem dX7_sendAllHome_43 : decode cX7_sendAllHome 43 = .ok (.iastore, 1) := by decide +kernel
theorem dX7_sendAllHome_44 : decode cX7_sendAllHome 44 = .ok (.aload_n 0, 1) := by decide +kernel
theorem dX7_sendAllHome_45 : decode cX7_sendAllHome 45 = .ok (.aload_n 0, 1) := by decide +kernel
theorem dX7_sendAllHome_46 : decode cX7_sendAllHome 46 = .ok (.getfield 39, 3) := by decide +kernel
theorem dX7_sendAllHome_49 : decode cX7_sendAllHome 49 = .ok (.iconst 1, 1) := by decide +kernel
theorem dX7_sendAllHome_50 : decode cX7_sendAllHome 50 = .ok (.invokestatic 75, 3) := by decide +kernel
theorem dX7_sendAllHome_53 : decode cX7_sendAllHome 53 = .ok (.putfield 39, 3) := by decide +kernel
theorem dX7_sendAllHome_56 : decode cX7_sendAllHome 56 = .ok (.return_, 1) := by decide +kernel
theorem dX7_giveDay_0 : decode cX7_giveDay 0 = .ok (.iload_n 2, 1) := by decide +kernel
theorem dX7_giveDay_1 : decode cX7_giveDay 1 = .ok (.aload_n 1, 1) := by decide +kernel
theorem dX7_giveDay_2 : decode cX7_giveDay 2 = .ok (.getfield 43, 3) := by decide +kernel
theorem dX7_giveDay_5 : decode cX7_giveDay 5 = .ok (.if_icmp .ge 18, 3) := by decide +kernel
theorem dX7_giveDay_8 : decode cX7_giveDay 8 = .ok (.aload_n 1, 1) := by decide +kernel
theorem dX7_giveDay_9 : decode cX7_giveDay 9 = .ok (.getfield 48, 3) := by decide +kernel
theorem dX7_giveDay_12 : decode cX7_giveDay 12 = .ok (.aload_n 0, 1) := by decide +kernel
theorem dX7_giveDay_13 : decode cX7_giveDay 13 = .ok (.getfield 19, 3) := by decide +kernel
theorem dX7_giveDay_16 : decode cX7_giveDay 16 = .ok (.iload_n 2, 1) := by decide +kernel
theorem dX7_giveDay_17 : decode cX7_giveDay 17 = .ok (.iaload, 1) := by decide +kernel
theorem dX7_giveDay_18 : decode cX7_giveDay 18 = .ok (.iaload, 1) := by decide +kernel
theorem dX7_giveDay_19 : decode cX7_giveDay 19 = .ok (.iload_n 3, 1) := by decide +kernel
theorem dX7_giveDay_20 : decode cX7_giveDay 20 = .ok (.if_icmp .eq 13, 3) := by decide +kernel
theorem dX7_giveDay_23 : decode cX7_giveDay 23 = .ok (.aload_n 0, 1) := by decide +kernel
theorem dX7_giveDay_24 : decode cX7_giveDay 24 = .ok (.aload_n 1, 1) := by decide +kernel
theorem dX7_giveDay_25 : decode cX7_giveDay 25 = .ok (.iload 4, 2) := by decide +kernel
theorem dX7_giveDay_27 : decode cX7_giveDay 27 = .ok (.lload 5, 2) := by decide +kernel
theorem dX7_giveDay_29 : decode cX7_giveDay 29 = .ok (.invokevirtual 78, 3) := by decide +kernel
theorem dX7_giveDay_32 : decode cX7_giveDay 32 = .ok (.return_, 1) := by decide +kernel
theorem dX7_giveDay_33 : decode cX7_giveDay 33 = .ok (.aload_n 0, 1) := by decide +kernel
theorem dX7_giveDay_34 : decode cX7_giveDay 34 = .ok (.getfield 19, 3) := by decide +kernel
theorem dX7_giveDay_37 : decode cX7_giveDay 37 = .ok (.iload_n 2, 1) := by decide +kernel
theorem dX7_giveDay_38 : decode cX7_giveDay 38 = .ok (.iaload, 1) := by decide +kernel
theorem dX7_giveDay_39 : decode cX7_giveDay 39 = .ok (.istore 7, 2) := by decide +kernel
theorem dX7_giveDay_41 : decode cX7_giveDay 41 = .ok (.iconst 0, 1) := by decide +kernel
theorem dX7_giveDay_42 : decode cX7_giveDay 42 = .ok (.istore 8, 2) := by decide +kernel
theorem dX7_giveDay_44 : decode cX7_giveDay 44 = .ok (.iload 8, 2) := by decide +kernel
theorem dX7_giveDay_46 : decode cX7_giveDay 46 = .ok (.aload_n 1, 1) := by decide +kernel
theorem dX7_giveDay_47 : decode cX7_giveDay 47 = .ok (.getfield 82, 3) := by decide +kernel
theorem dX7_giveDay_50 : decode cX7_giveDay 50 = .ok (.if_icmp .ge 91, 3) := by decide +kernel
theorem dX7_giveDay_53 : decode cX7_giveDay 53 = .ok (.iload 4, 2) := by decide +kernel
theorem dX7_giveDay_55 : decode cX7_giveDay 55 = .ok (.iload 8, 2) := by decide +kernel
theorem dX7_giveDay_57 : decode cX7_giveDay 57 = .ok (.invokestatic 85, 3) := by decide +kernel
theorem dX7_giveDay_60 : decode cX7_giveDay 60 = .ok (.ifCond .ne 7, 3) := by decide +kernel
theorem dX7_giveDay_63 : decode cX7_giveDay 63 = .ok (.iconst 1, 1) := by decide +kernel
theorem dX7_giveDay_64 : decode cX7_giveDay 64 = .ok (.goto 4, 3) := by decide +kernel
theorem dX7_giveDay_67 : decode cX7_giveDay 67 = .ok (.iconst 0, 1) := by decide +kernel
theorem dX7_giveDay_68 : decode cX7_giveDay 68 = .ok (.istore 9, 2) := by decide +kernel
theorem dX7_giveDay_70 : decode cX7_giveDay 70 = .ok (.iload 9, 2) := by decide +kernel
theorem dX7_giveDay_72 : decode cX7_giveDay 72 = .ok (.ifCond .eq 63, 3) := by decide +kernel
theorem dX7_giveDay_75 : decode cX7_giveDay 75 = .ok (.aload_n 0, 1) := by decide +kernel
theorem dX7_giveDay_76 : decode cX7_giveDay 76 = .ok (.getfield 15, 3) := by decide +kernel
theorem dX7_giveDay_79 : decode cX7_giveDay 79 = .ok (.iload 7, 2) := by decide +kernel
theorem dX7_giveDay_81 : decode cX7_giveDay 81 = .ok (.iconst 5, 1) := by decide +kernel
theorem dX7_giveDay_82 : decode cX7_giveDay 82 = .ok (.imul, 1) := by decide +kernel
theorem dX7_giveDay_83 : decode cX7_giveDay 83 = .ok (.iload 8, 2) := by decide +kernel
theorem dX7_giveDay_85 : decode cX7_giveDay 85 = .ok (.iadd, 1) := by decide +kernel
theorem dX7_giveDay_86 : decode cX7_giveDay 86 = .ok (.baload, 1) := by decide +kernel
theorem dX7_giveDay_87 : decode cX7_giveDay 87 = .ok (.ifCond .eq 48, 3) := by decide +kernel
theorem dX7_giveDay_90 : decode cX7_giveDay 90 = .ok (.aload_n 1, 1) := by decide +kernel
theorem dX7_giveDay_91 : decode cX7_giveDay 91 = .ok (.getfield 88, 3) := by decide +kernel
theorem dX7_giveDay_94 : decode cX7_giveDay 94 = .ok (.iload 7, 2) := by decide +kernel
theorem dX7_giveDay_96 : decode cX7_giveDay 96 = .ok (.iaload, 1) := by decide +kernel
theorem dX7_giveDay_97 : decode cX7_giveDay 97 = .ok (.iconst 1, 1) := by decide +kernel
theorem dX7_giveDay_98 : decode cX7_giveDay 98 = .ok (.iadd, 1) := by decide +kernel
theorem dX7_giveDay_99 : decode cX7_giveDay 99 = .ok (.iconst 4, 1) := by decide +kernel
theorem dX7_giveDay_100 : decode cX7_giveDay 100 = .ok (.iload 8, 2) := by decide +kernel
theorem dX7_giveDay_102 : decode cX7_giveDay 102 = .ok (.imul, 1) := by decide +kernel
theorem dX7_giveDay_103 : decode cX7_giveDay 103 = .ok (.ishl, 1) := by decide +kernel
theorem dX7_giveDay_104 : decode cX7_giveDay 104 = .ok (.istore 10, 2) := by decide +kernel
theorem dX7_giveDay_106 : decode cX7_giveDay 106 = .ok (.aload_n 1, 1) := by decide +kernel
theorem dX7_giveDay_107 : decode cX7_giveDay 107 = .ok (.iload 8, 2) := by decide +kernel
theorem dX7_giveDay_109 : decode cX7_giveDay 109 = .ok (.iload 7, 2) := by decide +kernel
theorem dX7_giveDay_111 : decode cX7_giveDay 111 = .ok (.invokestatic 91, 3) := by decide +kernel
theorem dX7_giveDay_114 : decode cX7_giveDay 114 = .ok (.lstore 11, 2) := by decide +kernel
theorem dX7_giveDay_116 : decode cX7_giveDay 116 = .ok (.aload_n 0, 1) := by decide +kernel
theorem dX7_giveDay_117 : decode cX7_giveDay 117 = .ok (.aload_n 1, 1) := by decide +kernel
theorem dX7_giveDay_118 : decode cX7_giveDay 118 = .ok (.iload_n 2, 1) := by decide +kernel
theorem dX7_giveDay_119 : decode cX7_giveDay 119 = .ok (.iconst 1, 1) := by decide +kernel
theorem dX7_giveDay_120 : decode cX7_giveDay 120 = .ok (.iadd, 1) := by decide +kernel
theorem dX7_giveDay_121 : decode cX7_giveDay 121 = .ok (.iload_n 3, 1) := by decide +kernel
theorem dX7_giveDay_122 : decode cX7_giveDay 122 = .ok (.iload 4, 2) := by decide +kernel
theorem dX7_giveDay_124 : decode cX7_giveDay 124 = .ok (.iload 10, 2) := by decide +kernel
theorem dX7_giveDay_126 : decode cX7_giveDay 126 = .ok (.ior, 1) := by decide +kernel
theorem dX7_giveDay_127 : decode cX7_giveDay 127 = .ok (.lload 5, 2) := by decide +kernel
theorem dX7_giveDay_129 : decode cX7_giveDay 129 = .ok (.lload 11, 2) := by decide +kernel
theorem dX7_giveDay_131 : decode cX7_giveDay 131 = .ok (.ladd, 1) := by decide +kernel
theorem dX7_giveDay_132 : decode cX7_giveDay 132 = .ok (.invokevirtual 55, 3) := by decide +kernel
theorem dX7_giveDay_135 : decode cX7_giveDay 135 = .ok (.iinc 8 1, 3) := by decide +kernel
theorem dX7_giveDay_138 : decode cX7_giveDay 138 = .ok (.goto (-94), 3) := by decide +kernel
theorem dX7_giveDay_141 : decode cX7_giveDay 141 = .ok (.return_, 1) := by decide +kernel
theorem dX7_addState_0 : decode cX7_addState 0 = .ok (.aload_n 0, 1) := by decide +kernel
theorem dX7_addState_1 : decode cX7_addState 1 = .ok (.getfield 66, 3) := by decide +kernel
theorem dX7_addState_4 : decode cX7_addState 4 = .ok (.ifCond .le 12, 3) := by decide +kernel
theorem dX7_addState_7 : decode cX7_addState 7 = .ok (.aload_n 0, 1) := by decide +kernel
theorem dX7_addState_8 : decode cX7_addState 8 = .ok (.getfield 39, 3) := by decide +kernel
theorem dX7_addState_11 : decode cX7_addState 11 = .ok (.bipush 120, 2) := by decide +kernel
theorem dX7_addState_13 : decode cX7_addState 13 = .ok (.if_icmp .lt 4, 3) := by decide +kernel
theorem dX7_addState_16 : decode cX7_addState 16 = .ok (.return_, 1) := by decide +kernel
theorem dX7_addState_17 : decode cX7_addState 17 = .ok (.aload_n 0, 1) := by decide +kernel
theorem dX7_addState_18 : decode cX7_addState 18 = .ok (.getfield 32, 3) := by decide +kernel
theorem dX7_addState_21 : decode cX7_addState 21 = .ok (.iconst 0, 1) := by decide +kernel
theorem dX7_addState_22 : decode cX7_addState 22 = .ok (.laload, 1) := by decide +kernel
theorem dX7_addState_23 : decode cX7_addState 23 = .ok (.aload_n 1, 1) := by decide +kernel
theorem dX7_addState_24 : decode cX7_addState 24 = .ok (.aload_n 0, 1) := by decide +kernel
theorem dX7_addState_25 : decode cX7_addState 25 = .ok (.getfield 25, 3) := by decide +kernel
theorem dX7_addState_28 : decode cX7_addState 28 = .ok (.iconst 0, 1) := by decide +kernel
theorem dX7_addState_29 : decode cX7_addState 29 = .ok (.iaload, 1) := by decide +kernel
theorem dX7_addState_30 : decode cX7_addState 30 = .ok (.iload_n 2, 1) := by decide +kernel
theorem dX7_addState_31 : decode cX7_addState 31 = .ok (.invokestatic 95, 3) := by decide +kernel
theorem dX7_addState_34 : decode cX7_addState 34 = .ok (.lsub, 1) := by decide +kernel
theorem dX7_addState_35 : decode cX7_addState 35 = .ok (.lstore 5, 2) := by decide +kernel
theorem dX7_addState_37 : decode cX7_addState 37 = .ok (.iconst 1, 1) := by decide +kernel
theorem dX7_addState_38 : decode cX7_addState 38 = .ok (.istore 7, 2) := by decide +kernel
theorem dX7_addState_40 : decode cX7_addState 40 = .ok (.iload 7, 2) := by decide +kernel
theorem dX7_addState_42 : decode cX7_addState 42 = .ok (.aload_n 0, 1) := by decide +kernel
theorem dX7_addState_43 : decode cX7_addState 43 = .ok (.getfield 66, 3) := by decide +kernel
theorem dX7_addState_46 : decode cX7_addState 46 = .ok (.if_icmp .ge 40, 3) := by decide +kernel
theorem dX7_addState_49 : decode cX7_addState 49 = .ok (.aload_n 0, 1) := by decide +kernel
theorem dX7_addState_50 : decode cX7_addState 50 = .ok (.getfield 32, 3) := by decide +kernel
theorem dX7_addState_53 : decode cX7_addState 53 = .ok (.iload 7, 2) := by decide +kernel
theorem dX7_addState_55 : decode cX7_addState 55 = .ok (.laload, 1) := by decide +kernel
theorem dX7_addState_56 : decode cX7_addState 56 = .ok (.aload_n 1, 1) := by decide +kernel
theorem dX7_addState_57 : decode cX7_addState 57 = .ok (.aload_n 0, 1) := by decide +kernel
theorem dX7_addState_58 : decode cX7_addState 58 = .ok (.getfield 25, 3) := by decide +kernel
theorem dX7_addState_61 : decode cX7_addState 61 = .ok (.iload 7, 2) := by decide +kernel
theorem dX7_addState_63 : decode cX7_addState 63 = .ok (.iaload, 1) := by decide +kernel
theorem dX7_addState_64 : decode cX7_addState 64 = .ok (.iload_n 2, 1) := by decide +kernel
theorem dX7_addState_65 : decode cX7_addState 65 = .ok (.invokestatic 95, 3) := by decide +kernel
theorem dX7_addState_68 : decode cX7_addState 68 = .ok (.lsub, 1) := by decide +kernel
theorem dX7_addState_69 : decode cX7_addState 69 = .ok (.lstore 8, 2) := by decide +kernel
theorem dX7_addState_71 : decode cX7_addState 71 = .ok (.lload 5, 2) := by decide +kernel
theorem dX7_addState_73 : decode cX7_addState 73 = .ok (.lload 8, 2) := by decide +kernel
theorem dX7_addState_75 : decode cX7_addState 75 = .ok (.invokestatic 69, 3) := by decide +kernel
theorem dX7_addState_78 : decode cX7_addState 78 = .ok (.lstore 5, 2) := by decide +kernel
theorem dX7_addState_80 : decode cX7_addState 80 = .ok (.iinc 7 1, 3) := by decide +kernel
theorem dX7_addState_83 : decode cX7_addState 83 = .ok (.goto (-43), 3) := by decide +kernel
theorem dX7_addState_86 : decode cX7_addState 86 = .ok (.aload_n 0, 1) := by decide +kernel
theorem dX7_addState_87 : decode cX7_addState 87 = .ok (.getfield 22, 3) := by decide +kernel
theorem dX7_addState_90 : decode cX7_addState 90 = .ok (.aload_n 0, 1) := by decide +kernel
theorem dX7_addState_91 : decode cX7_addState 91 = .ok (.getfield 39, 3) := by decide +kernel
theorem dX7_addState_94 : decode cX7_addState 94 = .ok (.iload_n 2, 1) := by decide +kernel
theorem dX7_addState_95 : decode cX7_addState 95 = .ok (.iastore, 1) := by decide +kernel
theorem dX7_addState_96 : decode cX7_addState 96 = .ok (.aload_n 0, 1) := by decide +kernel
theorem dX7_addState_97 : decode cX7_addState 97 = .ok (.getfield 28, 3) := by decide +kernel
theorem dX7_addState_100 : decode cX7_addState 100 = .ok (.aload_n 0, 1) := by decide +kernel
theorem dX7_addState_101 : decode cX7_addState 101 = .ok (.getfield 39, 3) := by decide +kernel
theorem dX7_addState_104 : decode cX7_addState 104 = .ok (.lload 5, 2) := by decide +kernel
theorem dX7_addState_106 : decode cX7_addState 106 = .ok (.lload_n 3, 1) := by decide +kernel
theorem dX7_addState_107 : decode cX7_addState 107 = .ok (.ladd, 1) := by decide +kernel
theorem dX7_addState_108 : decode cX7_addState 108 = .ok (.lastore, 1) := by decide +kernel
theorem dX7_addState_109 : decode cX7_addState 109 = .ok (.aload_n 0, 1) := by decide +kernel
theorem dX7_addState_110 : decode cX7_addState 110 = .ok (.dup, 1) := by decide +kernel
theorem dX7_addState_111 : decode cX7_addState 111 = .ok (.getfield 39, 3) := by decide +kernel
theorem dX7_addState_114 : decode cX7_addState 114 = .ok (.iconst 1, 1) := by decide +kernel
theorem dX7_addState_115 : decode cX7_addState 115 = .ok (.iadd, 1) := by decide +kernel
theorem dX7_addState_116 : decode cX7_addState 116 = .ok (.putfield 39, 3) := by decide +kernel
theorem dX7_addState_119 : decode cX7_addState 119 = .ok (.return_, 1) := by decide +kernel
theorem dX7_placeOf_0 : decode cX7_placeOf 0 = .ok (.iload_n 0, 1) := by decide +kernel
theorem dX7_placeOf_1 : decode cX7_placeOf 1 = .ok (.iconst 4, 1) := by decide +kernel
theorem dX7_placeOf_2 : decode cX7_placeOf 2 = .ok (.iload_n 1, 1) := by decide +kernel
theorem dX7_placeOf_3 : decode cX7_placeOf 3 = .ok (.imul, 1) := by decide +kernel
theorem dX7_placeOf_4 : decode cX7_placeOf 4 = .ok (.ishr, 1) := by decide +kernel
theorem dX7_placeOf_5 : decode cX7_placeOf 5 = .ok (.bipush 15, 2) := by decide +kernel
theorem dX7_placeOf_7 : decode cX7_placeOf 7 = .ok (.iand, 1) := by decide +kernel
theorem dX7_placeOf_8 : decode cX7_placeOf 8 = .ok (.ireturn, 1) := by decide +kernel
theorem dX7_costOf_0 : decode cX7_costOf 0 = .ok (.aload_n 0, 1) := by decide +kernel
theorem dX7_costOf_1 : decode cX7_costOf 1 = .ok (.aload_n 0, 1) := by decide +kernel
theorem dX7_costOf_2 : decode cX7_costOf 2 = .ok (.getfield 98, 3) := by decide +kernel
theorem dX7_costOf_5 : decode cX7_costOf 5 = .ok (.iload_n 1, 1) := by decide +kernel
theorem dX7_costOf_6 : decode cX7_costOf 6 = .ok (.iaload, 1) := by decide +kernel
theorem dX7_costOf_7 : decode cX7_costOf 7 = .ok (.aload_n 0, 1) := by decide +kernel
theorem dX7_costOf_8 : decode cX7_costOf 8 = .ok (.getfield 88, 3) := by decide +kernel
theorem dX7_costOf_11 : decode cX7_costOf 11 = .ok (.iload_n 2, 1) := by decide +kernel
theorem dX7_costOf_12 : decode cX7_costOf 12 = .ok (.iaload, 1) := by decide +kernel
theorem dX7_costOf_13 : decode cX7_costOf 13 = .ok (.invokevirtual 101, 3) := by decide +kernel
theorem dX7_costOf_16 : decode cX7_costOf 16 = .ok (.istore_n 3, 1) := by decide +kernel
theorem dX7_costOf_17 : decode cX7_costOf 17 = .ok (.iload_n 1, 1) := by decide +kernel
theorem dX7_costOf_18 : decode cX7_costOf 18 = .ok (.i2l, 1) := by decide +kernel
theorem dX7_costOf_19 : decode cX7_costOf 19 = .ok (.iconst 3, 1) := by decide +kernel
theorem dX7_costOf_20 : decode cX7_costOf 20 = .ok (.bipush 8, 2) := by decide +kernel
theorem dX7_costOf_22 : decode cX7_costOf 22 = .ok (.iload_n 2, 1) := by decide +kernel
theorem dX7_costOf_23 : decode cX7_costOf 23 = .ok (.isub, 1) := by decide +kernel
theorem dX7_costOf_24 : decode cX7_costOf 24 = .ok (.imul, 1) := by decide +kernel
theorem dX7_costOf_25 : decode cX7_costOf 25 = .ok (.lshl, 1) := by decide +kernel
theorem dX7_costOf_26 : decode cX7_costOf 26 = .ok (.lstore 4, 2) := by decide +kernel
theorem dX7_costOf_28 : decode cX7_costOf 28 = .ok (.ldc2_w 104, 3) := by decide +kernel
theorem dX7_costOf_31 : decode cX7_costOf 31 = .ok (.iload_n 3, 1) := by decide +kernel
theorem dX7_costOf_32 : decode cX7_costOf 32 = .ok (.i2l, 1) := by decide +kernel
theorem dX7_costOf_33 : decode cX7_costOf 33 = .ok (.lmul, 1) := by decide +kernel
theorem dX7_costOf_34 : decode cX7_costOf 34 = .ok (.bipush 27, 2) := by decide +kernel
theorem dX7_costOf_36 : decode cX7_costOf 36 = .ok (.lshl, 1) := by decide +kernel
theorem dX7_costOf_37 : decode cX7_costOf 37 = .ok (.lload 4, 2) := by decide +kernel
theorem dX7_costOf_39 : decode cX7_costOf 39 = .ok (.ladd, 1) := by decide +kernel
theorem dX7_costOf_40 : decode cX7_costOf 40 = .ok (.lreturn, 1) := by decide +kernel
theorem dX7_savedBetween_0 : decode cX7_savedBetween 0 = .ok (.lconst 0, 1) := by decide +kernel
theorem dX7_savedBetween_1 : decode cX7_savedBetween 1 = .ok (.lstore_n 3, 1) := by decide +kernel
theorem dX7_savedBetween_2 : decode cX7_savedBetween 2 = .ok (.iconst 0, 1) := by decide +kernel
theorem dX7_savedBetween_3 : decode cX7_savedBetween 3 = .ok (.istore 5, 2) := by decide +kernel
theorem dX7_savedBetween_5 : decode cX7_savedBetween 5 = .ok (.iload 5, 2) := by decide +kernel
theorem dX7_savedBetween_7 : decode cX7_savedBetween 7 = .ok (.aload_n 0, 1) := by decide +kernel
theorem dX7_savedBetween_8 : decode cX7_savedBetween 8 = .ok (.getfield 82, 3) := by decide +kernel
theorem dX7_savedBetween_11 : decode cX7_savedBetween 11 = .ok (.if_icmp .ge 86, 3) := by decide +kernel
theorem dX7_savedBetween_14 : decode cX7_savedBetween 14 = .ok (.iload_n 1, 1) := by decide +kernel
theorem dX7_savedBetween_15 : decode cX7_savedBetween 15 = .ok (.iload 5, 2) := by decide +kernel
theorem dX7_savedBetween_17 : decode cX7_savedBetween 17 = .ok (.invokestatic 85, 3) := by decide +kernel
theorem dX7_savedBetween_20 : decode cX7_savedBetween 20 = .ok (.iconst 1, 1) := by decide +kernel
theorem dX7_savedBetween_21 : decode cX7_savedBetween 21 = .ok (.isub, 1) := by decide +kernel
theorem dX7_savedBetween_22 : decode cX7_savedBetween 22 = .ok (.istore 6, 2) := by decide +kernel
theorem dX7_savedBetween_24 : decode cX7_savedBetween 24 = .ok (.iload_n 2, 1) := by decide +kernel
theorem dX7_savedBetween_25 : decode cX7_savedBetween 25 = .ok (.iload 5, 2) := by decide +kernel
theorem dX7_savedBetween_27 : decode cX7_savedBetween 27 = .ok (.invokestatic 85, 3) := by decide +kernel
theorem dX7_savedBetween_30 : decode cX7_savedBetween 30 = .ok (.iconst 1, 1) := by decide +kernel
theorem dX7_savedBetween_31 : decode cX7_savedBetween 31 = .ok (.isub, 1) := by decide +kernel
theorem dX7_savedBetween_32 : decode cX7_savedBetween 32 = .ok (.istore 7, 2) := by decide +kernel
theorem dX7_savedBetween_34 : decode cX7_savedBetween 34 = .ok (.aload_n 0, 1) := by decide +kernel
theorem dX7_savedBetween_35 : decode cX7_savedBetween 35 = .ok (.iload 6, 2) := by decide +kernel
theorem dX7_savedBetween_37 : decode cX7_savedBetween 37 = .ok (.invokevirtual 106, 3) := by decide +kernel
theorem dX7_savedBetween_40 : decode cX7_savedBetween 40 = .ok (.ifCond .eq 51, 3) := by decide +kernel
theorem dX7_savedBetween_43 : decode cX7_savedBetween 43 = .ok (.aload_n 0, 1) := by decide +kernel
theorem dX7_savedBetween_44 : decode cX7_savedBetween 44 = .ok (.iload 7, 2) := by decide +kernel
theorem dX7_savedBetween_46 : decode cX7_savedBetween 46 = .ok (.invokevirtual 106, 3) := by decide +kernel
theorem dX7_savedBetween_49 : decode cX7_savedBetween 49 = .ok (.ifCond .eq 42, 3) := by decide +kernel
theorem dX7_savedBetween_52 : decode cX7_savedBetween 52 = .ok (.aload_n 0, 1) := by decide +kernel
theorem dX7_savedBetween_53 : decode cX7_savedBetween 53 = .ok (.getfield 98, 3) := by decide +kernel
theorem dX7_savedBetween_56 : decode cX7_savedBetween 56 = .ok (.iload 5, 2) := by decide +kernel
theorem dX7_savedBetween_58 : decode cX7_savedBetween 58 = .ok (.iaload, 1) := by decide +kernel
theorem dX7_savedBetween_59 : decode cX7_savedBetween 59 = .ok (.istore 8, 2) := by decide +kernel
theorem dX7_savedBetween_61 : decode cX7_savedBetween 61 = .ok (.lload_n 3, 1) := by decide +kernel
theorem dX7_savedBetween_62 : decode cX7_savedBetween 62 = .ok (.aload_n 0, 1) := by decide +kernel
theorem dX7_savedBetween_63 : decode cX7_savedBetween 63 = .ok (.iload 6, 2) := by decide +kernel
theorem dX7_savedBetween_65 : decode cX7_savedBetween 65 = .ok (.iload 8, 2) := by decide +kernel
theorem dX7_savedBetween_67 : decode cX7_savedBetween 67 = .ok (.invokevirtual 101, 3) := by decide +kernel
theorem dX7_savedBetween_70 : decode cX7_savedBetween 70 = .ok (.aload_n 0, 1) := by decide +kernel
theorem dX7_savedBetween_71 : decode cX7_savedBetween 71 = .ok (.iload 8, 2) := by decide +kernel
theorem dX7_savedBetween_73 : decode cX7_savedBetween 73 = .ok (.iload 7, 2) := by decide +kernel
theorem dX7_savedBetween_75 : decode cX7_savedBetween 75 = .ok (.invokevirtual 101, 3) := by decide +kernel
theorem dX7_savedBetween_78 : decode cX7_savedBetween 78 = .ok (.iadd, 1) := by decide +kernel
theorem dX7_savedBetween_79 : decode cX7_savedBetween 79 = .ok (.aload_n 0, 1) := by decide +kernel
theorem dX7_savedBetween_80 : decode cX7_savedBetween 80 = .ok (.iload 6, 2) := by decide +kernel
theorem dX7_savedBetween_82 : decode cX7_savedBetween 82 = .ok (.iload 7, 2) := by decide +kernel
theorem dX7_savedBetween_84 : decode cX7_savedBetween 84 = .ok (.invokevirtual 101, 3) := by decide +kernel
theorem dX7_savedBetween_87 : decode cX7_savedBetween 87 = .ok (.isub, 1) := by decide +kernel
theorem dX7_savedBetween_88 : decode cX7_savedBetween 88 = .ok (.i2l, 1) := by decide +kernel
theorem dX7_savedBetween_89 : decode cX7_savedBetween 89 = .ok (.ladd, 1) := by decide +kernel
theorem dX7_savedBetween_90 : decode cX7_savedBetween 90 = .ok (.lstore_n 3, 1) := by decide +kernel
theorem dX7_savedBetween_91 : decode cX7_savedBetween 91 = .ok (.iinc 5 1, 3) := by decide +kernel
theorem dX7_savedBetween_94 : decode cX7_savedBetween 94 = .ok (.goto (-89), 3) := by decide +kernel
theorem dX7_savedBetween_97 : decode cX7_savedBetween 97 = .ok (.lload_n 3, 1) := by decide +kernel
theorem dX7_savedBetween_98 : decode cX7_savedBetween 98 = .ok (.bipush 27, 2) := by decide +kernel
theorem dX7_savedBetween_100 : decode cX7_savedBetween 100 = .ok (.lshl, 1) := by decide +kernel
theorem dX7_savedBetween_101 : decode cX7_savedBetween 101 = .ok (.lreturn, 1) := by decide +kernel
theorem dX7_choose_0 : decode cX7_choose 0 = .ok (.iconst 0, 1) := by decide +kernel
theorem dX7_choose_1 : decode cX7_choose 1 = .ok (.istore 4, 2) := by decide +kernel
theorem dX7_choose_3 : decode cX7_choose 3 = .ok (.iload 4, 2) := by decide +kernel
theorem dX7_choose_5 : decode cX7_choose 5 = .ok (.iload_n 1, 1) := by decide +kernel
theorem dX7_choose_6 : decode cX7_choose 6 = .ok (.if_icmp .ge 29, 3) := by decide +kernel
theorem dX7_choose_9 : decode cX7_choose 9 = .ok (.aload_n 0, 1) := by decide +kernel
theorem dX7_choose_10 : decode cX7_choose 10 = .ok (.getfield 9, 3) := by decide +kernel
theorem dX7_choose_13 : decode cX7_choose 13 = .ok (.iload 4, 2) := by decide +kernel
theorem dX7_choose_15 : decode cX7_choose 15 = .ok (.lload_n 2, 1) := by decide +kernel
theorem dX7_choose_16 : decode cX7_choose 16 = .ok (.iconst 3, 1) := by decide +kernel
theorem dX7_choose_17 : decode cX7_choose 17 = .ok (.bipush 8, 2) := by decide +kernel
theorem dX7_choose_19 : decode cX7_choose 19 = .ok (.iload 4, 2) := by decide +kernel
theorem dX7_choose_21 : decode cX7_choose 21 = .ok (.isub, 1) := by decide +kernel
theorem dX7_choose_22 : decode cX7_choose 22 = .ok (.imul, 1) := by decide +kernel
theorem dX7_choose_23 : decode cX7_choose 23 = .ok (.lshr, 1) := by decide +kernel
theorem dX7_choose_24 : decode cX7_choose 24 = .ok (.l2i, 1) := by decide +kernel
theorem dX7_choose_25 : decode cX7_choose 25 = .ok (.bipush 7, 2) := by decide +kernel
theorem dX7_choose_27 : decode cX7_choose 27 = .ok (.iand, 1) := by decide +kernel
theorem dX7_choose_28 : decode cX7_choose 28 = .ok (.iastore, 1) := by decide +kernel
theorem dX7_choose_29 : decode cX7_choose 29 = .ok (.iinc 4 1, 3) := by decide +kernel
theorem dX7_choose_32 : decode cX7_choose 32 = .ok (.goto (-29), 3) := by decide +kernel
theorem dX7_choose_35 : decode cX7_choose 35 = .ok (.return_, 1) := by decide +kernel
theorem dX8_init_0 : decode cX8_init 0 = .ok (.aload_n 0, 1) := by decide +kernel
theorem dX8_init_1 : decode cX8_init 1 = .ok (.invokespecial 3, 3) := by decide +kernel
theorem dX8_init_4 : decode cX8_init 4 = .ok (.aload_n 0, 1) := by decide +kernel
theorem dX8_init_5 : decode cX8_init 5 = .ok (.bipush 8, 2) := by decide +kernel
theorem dX8_init_7 : decode cX8_init 7 = .ok (.anewarray 9, 3) := by decide +kernel
theorem dX8_init_10 : decode cX8_init 10 = .ok (.putfield 11, 3) := by decide +kernel
theorem dX8_init_13 : decode cX8_init 13 = .ok (.aload_n 0, 1) := by decide +kernel
theorem dX8_init_14 : decode cX8_init 14 = .ok (.sipush 750, 3) := by decide +kernel
theorem dX8_init_17 : decode cX8_init 17 = .ok (.newarray .int, 2) := by decide +kernel
theorem dX8_init_19 : decode cX8_init 19 = .ok (.putfield 17, 3) := by decide +kernel
theorem dX8_init_22 : decode cX8_init 22 = .ok (.iconst 0, 1) := by decide +kernel
theorem dX8_init_23 : decode cX8_init 23 = .ok (.istore_n 1, 1) := by decide +kernel
theorem dX8_init_24 : decode cX8_init 24 = .ok (.iload_n 1, 1) := by decide +kernel
theorem dX8_init_25 : decode cX8_init 25 = .ok (.bipush 8, 2) := by decide +kernel
theorem dX8_init_27 : decode cX8_init 27 = .ok (.if_icmp .ge 22, 3) := by decide +kernel
theorem dX8_init_30 : decode cX8_init 30 = .ok (.aload_n 0, 1) := by decide +kernel
theorem dX8_init_31 : decode cX8_init 31 = .ok (.getfield 11, 3) := by decide +kernel
theorem dX8_init_34 : decode cX8_init 34 = .ok (.iload_n 1, 1) := by decide +kernel
theorem dX8_init_35 : decode cX8_init 35 = .ok (.new 9, 3) := by decide +kernel
theorem dX8_init_38 : decode cX8_init 38 = .ok (.dup, 1) := by decide +kernel
theorem dX8_init_39 : decode cX8_init 39 = .ok (.invokespecial 21, 3) := by decide +kernel
theorem dX8_init_42 : decode cX8_init 42 = .ok (.aastore, 1) := by decide +kernel
theorem dX8_init_43 : decode cX8_init 43 = .ok (.iinc 1 1, 3) := by decide +kernel
theorem dX8_init_46 : decode cX8_init 46 = .ok (.goto (-22), 3) := by decide +kernel
theorem dX8_init_49 : decode cX8_init 49 = .ok (.return_, 1) := by decide +kernel
theorem dX8_clear_0 : decode cX8_clear 0 = .ok (.aload_n 0, 1) := by decide +kernel
theorem dX8_clear_1 : decode cX8_clear 1 = .ok (.iconst 0, 1) := by decide +kernel
theorem dX8_clear_2 : decode cX8_clear 2 = .ok (.putfield 22, 3) := by decide +kernel
theorem dX8_clear_5 : decode cX8_clear 5 = .ok (.aload_n 0, 1) := by decide +kernel
theorem dX8_clear_6 : decode cX8_clear 6 = .ok (.iconst 0, 1) := by decide +kernel
theorem dX8_clear_7 : decode cX8_clear 7 = .ok (.putfield 26, 3) := by decide +kernel
theorem dX8_clear_10 : decode cX8_clear 10 = .ok (.iconst 0, 1) := by decide +kernel
theorem dX8_clear_11 : decode cX8_clear 11 = .ok (.istore_n 1, 1) := by decide +kernel
theorem dX8_clear_12 : decode cX8_clear 12 = .ok (.iload_n 1, 1) := by decide +kernel
theorem dX8_clear_13 : decode cX8_clear 13 = .ok (.bipush 8, 2) := by decide +kernel
theorem dX8_clear_15 : decode cX8_clear 15 = .ok (.if_icmp .ge 18, 3) := by decide +kernel
theorem dX8_clear_18 : decode cX8_clear 18 = .ok (.aload_n 0, 1) := by decide +kernel
theorem dX8_clear_19 : decode cX8_clear 19 = .ok (.getfield 11, 3) := by decide +kernel
theorem dX8_clear_22 : decode cX8_clear 22 = .ok (.iload_n 1, 1) := by decide +kernel
theorem dX8_clear_23 : decode cX8_clear 23 = .ok (.aaload, 1) := by decide +kernel
theorem dX8_clear_24 : decode cX8_clear 24 = .ok (.invokevirtual 29, 3) := by decide +kernel
theorem dX8_clear_27 : decode cX8_clear 27 = .ok (.iinc 1 1, 3) := by decide +kernel
theorem dX8_clear_30 : decode cX8_clear 30 = .ok (.goto (-18), 3) := by decide +kernel
theorem dX8_clear_33 : decode cX8_clear 33 = .ok (.return_, 1) := by decide +kernel
theorem dX8_open_0 : decode cX8_open 0 = .ok (.iload_n 1, 1) := by decide +kernel
theorem dX8_open_1 : decode cX8_open 1 = .ok (.iconst 1, 1) := by decide +kernel
theorem dX8_open_2 : decode cX8_open 2 = .ok (.if_icmp .lt 9, 3) := by decide +kernel
theorem dX8_open_5 : decode cX8_open 5 = .ok (.iload_n 1, 1) := by decide +kernel
theorem dX8_open_6 : decode cX8_open 6 = .ok (.bipush 8, 2) := by decide +kernel
theorem dX8_open_8 : decode cX8_open 8 = .ok (.if_icmp .le 5, 3) := by decide +kernel
theorem dX8_open_11 : decode cX8_open 11 = .ok (.aconst_null, 1) := by decide +kernel
theorem dX8_open_12 : decode cX8_open 12 = .ok (.areturn, 1) := by decide +kernel
theorem dX8_open_13 : decode cX8_open 13 = .ok (.aload_n 0, 1) := by decide +kernel
theorem dX8_open_14 : decode cX8_open 14 = .ok (.getfield 11, 3) := by decide +kernel
theorem dX8_open_17 : decode cX8_open 17 = .ok (.iload_n 1, 1) := by decide +kernel
theorem dX8_open_18 : decode cX8_open 18 = .ok (.iconst 1, 1) := by decide +kernel
theorem dX8_open_19 : decode cX8_open 19 = .ok (.isub, 1) := by decide +kernel
theorem dX8_open_20 : decode cX8_open 20 = .ok (.aaload, 1) := by decide +kernel
theorem dX8_open_21 : decode cX8_open 21 = .ok (.iconst 1, 1) := by decide +kernel
theorem dX8_open_22 : decode cX8_open 22 = .ok (.putfield 32, 3) := by decide +kernel
theorem dX8_open_25 : decode cX8_open 25 = .ok (.aload_n 0, 1) := by decide +kernel
theorem dX8_open_26 : decode cX8_open 26 = .ok (.dup, 1) := by decide +kernel
theorem dX8_open_27 : decode cX8_open 27 = .ok (.getfield 22, 3) := by decide +kernel
theorem dX8_open_30 : decode cX8_open 30 = .ok (.iconst 1, 1) := by decide +kernel
theorem dX8_open_31 : decode cX8_open 31 = .ok (.iadd, 1) := by decide +kernel
theorem dX8_open_32 : decode cX8_open 32 = .ok (.putfield 22, 3) := by decide +kernel
theorem dX8_open_35 : decode cX8_open 35 = .ok (.aload_n 0, 1) := by decide +kernel
theorem dX8_open_36 : decode cX8_open 36 = .ok (.getfield 11, 3) := by decide +kernel
theorem dX8_open_39 : decode cX8_open 39 = .ok (.iload_n 1, 1) := by decide +kernel
theorem dX8_open_40 : decode cX8_open 40 = .ok (.iconst 1, 1) := by decide +kernel
theorem dX8_open_41 : decode cX8_open 41 = .ok (.isub, 1) := by decide +kernel
theorem dX8_open_42 : decode cX8_open 42 = .ok (.aaload, 1) := by decide +kernel
theorem dX8_open_43 : decode cX8_open 43 = .ok (.areturn, 1) := by decide +kernel
theorem dX8_find_0 : decode cX8_find 0 = .ok (.iload_n 1, 1) := by decide +kernel
theorem dX8_find_1 : decode cX8_find 1 = .ok (.iconst 1, 1) := by decide +kernel
theorem dX8_find_2 : decode cX8_find 2 = .ok (.if_icmp .lt 27, 3) := by decide +kernel
theorem dX8_find_5 : decode cX8_find 5 = .ok (.iload_n 1, 1) := by decide +kernel
theorem dX8_find_6 : decode cX8_find 6 = .ok (.bipush 8, 2) := by decide +kernel
theorem dX8_find_8 : decode cX8_find 8 = .ok (.if_icmp .gt 21, 3) := by decide +kernel
theorem dX8_find_11 : decode cX8_find 11 = .ok (.aload_n 0, 1) := by decide +kernel
theorem dX8_find_12 : decode cX8_find 12 = .ok (.getfield 11, 3) := by decide +kernel
theorem dX8_find_15 : decode cX8_find 15 = .ok (.iload_n 1, 1) := by decide +kernel
theorem dX8_find_16 : decode cX8_find 16 = .ok (.iconst 1, 1) := by decide +kernel
theorem dX8_find_17 : decode cX8_find 17 = .ok (.isub, 1) := by decide +kernel
theorem dX8_find_18 : decode cX8_find 18 = .ok (.aaload, 1) := by decide +kernel
theorem dX8_find_19 : decode cX8_find 19 = .ok (.getfield 32, 3) := by decide +kernel
theorem dX8_find_22 : decode cX8_find 22 = .ok (.ifCond .eq 7, 3) := by decide +kernel
theorem dX8_find_25 : decode cX8_find 25 = .ok (.iconst 1, 1) := by decide +kernel
theorem dX8_find_26 : decode cX8_find 26 = .ok (.goto 4, 3) := by decide +kernel
theorem dX8_find_29 : decode cX8_find 29 = .ok (.iconst 0, 1) := by decide +kernel
theorem dX8_find_30 : decode cX8_find 30 = .ok (.istore_n 2, 1) := by decide +kernel
theorem dX8_find_31 : decode cX8_find 31 = .ok (.iload_n 2, 1) := by decide +kernel
theorem dX8_find_32 : decode cX8_find 32 = .ok (.ifCond .eq 14, 3) := by decide +kernel
theorem dX8_find_35 : decode cX8_find 35 = .ok (.aload_n 0, 1) := by decide +kernel
theorem dX8_find_36 : decode cX8_find 36 = .ok (.getfield 11, 3) := by decide +kernel
theorem dX8_find_39 : decode cX8_find 39 = .ok (.iload_n 1, 1) := by decide +kernel
theorem dX8_find_40 : decode cX8_find 40 = .ok (.iconst 1, 1) := by decide +kernel
theorem dX8_find_41 : decode cX8_find 41 = .ok (.isub, 1) := by decide +kernel
theorem dX8_find_42 : decode cX8_find 42 = .ok (.aaload, 1) := by decide +kernel
theorem dX8_find_43 : decode cX8_find 43 = .ok (.goto 4, 3) := by decide +kernel
theorem dX8_find_46 : decode cX8_find 46 = .ok (.aconst_null, 1) := by decide +kernel
theorem dX8_find_47 : decode cX8_find 47 = .ok (.areturn, 1) := by decide +kernel
theorem dX8_addCell_0 : decode cX8_addCell 0 = .ok (.aload_n 0, 1) := by decide +kernel
theorem dX8_addCell_1 : decode cX8_addCell 1 = .ok (.getfield 26, 3) := by decide +kernel
theorem dX8_addCell_4 : decode cX8_addCell 4 = .ok (.sipush 750, 3) := by decide +kernel
theorem dX8_addCell_7 : decode cX8_addCell 7 = .ok (.if_icmp .ge 28, 3) := by decide +kernel
theorem dX8_addCell_10 : decode cX8_addCell 10 = .ok (.aload_n 0, 1) := by decide +kernel
theorem dX8_addCell_11 : decode cX8_addCell 11 = .ok (.getfield 17, 3) := by decide +kernel
theorem dX8_addCell_14 : decode cX8_addCell 14 = .ok (.aload_n 0, 1) := by decide +kernel
theorem dX8_addCell_15 : decode cX8_addCell 15 = .ok (.getfield 26, 3) := by decide +kernel
theorem dX8_addCell_18 : decode cX8_addCell 18 = .ok (.iload_n 1, 1) := by decide +kernel
theorem dX8_addCell_19 : decode cX8_addCell 19 = .ok (.bipush 20, 2) := by decide +kernel
theorem dX8_addCell_21 : decode cX8_addCell 21 = .ok (.ishl, 1) := by decide +kernel
theorem dX8_addCell_22 : decode cX8_addCell 22 = .ok (.iload_n 2, 1) := by decide +kernel
theorem dX8_addCell_23 : decode cX8_addCell 23 = .ok (.ior, 1) := by decide +kernel
theorem dX8_addCell_24 : decode cX8_addCell 24 = .ok (.iastore, 1) := by decide +kernel
theorem dX8_addCell_25 : decode cX8_addCell 25 = .ok (.aload_n 0, 1) := by decide +kernel
theorem dX8_addCell_26 : decode cX8_addCell 26 = .ok (.dup, 1) := by decide +kernel
theorem dX8_addCell_27 : decode cX8_addCell 27 = .ok (.getfield 26, 3) := by decide +kernel
theorem dX8_addCell_30 : decode cX8_addCell 30 = .ok (.iconst 1, 1) := by decide +kernel
theorem dX8_addCell_31 : decode cX8_addCell 31 = .ok (.iadd, 1) := by decide +kernel
theorem dX8_addCell_32 : decode cX8_addCell 32 = .ok (.putfield 26, 3) := by decide +kernel
theorem dX8_addCell_35 : decode cX8_addCell 35 = .ok (.return_, 1) := by decide +kernel
theorem dX9_init_0 : decode cX9_init 0 = .ok (.aload_n 0, 1) := by decide +kernel
theorem dX9_init_1 : decode cX9_init 1 = .ok (.invokespecial 3, 3) := by decide +kernel
theorem dX9_init_4 : decode cX9_init 4 = .ok (.aload_n 0, 1) := by decide +kernel
theorem dX9_init_5 : decode cX9_init 5 = .ok (.sipush 1400, 3) := by decide +kernel
theorem dX9_init_8 : decode cX9_init 8 = .ok (.newarray .byte, 2) := by decide +kernel
theorem dX9_init_10 : decode cX9_init 10 = .ok (.putfield 9, 3) := by decide +kernel
theorem dX9_init_13 : decode cX9_init 13 = .ok (.return_, 1) := by decide +kernel
theorem dX9_append_0 : decode cX9_append 0 = .ok (.bipush 24, 2) := by decide +kernel
theorem dX9_append_2 : decode cX9_append 2 = .ok (.istore_n 2, 1) := by decide +kernel
theorem dX9_append_3 : decode cX9_append 3 = .ok (.iload_n 2, 1) := by decide +kernel
theorem dX9_append_4 : decode cX9_append 4 = .ok (.ifCond .lt 42, 3) := by decide +kernel
theorem dX9_append_7 : decode cX9_append 7 = .ok (.aload_n 0, 1) := by decide +kernel
theorem dX9_append_8 : decode cX9_append 8 = .ok (.getfield 15, 3) := by decide +kernel
theorem dX9_append_11 : decode cX9_append 11 = .ok (.sipush 1400, 3) := by decide +kernel
theorem dX9_append_14 : decode cX9_append 14 = .ok (.if_icmp .ge 32, 3) := by decide +kernel
theorem dX9_append_17 : decode cX9_append 17 = .ok (.aload_n 0, 1) := by decide +kernel
theorem dX9_append_18 : decode cX9_append 18 = .ok (.getfield 9, 3) := by decide +kernel
theorem dX9_append_21 : decode cX9_append 21 = .ok (.aload_n 0, 1) := by decide +kernel
theorem dX9_append_22 : decode cX9_append 22 = .ok (.getfield 15, 3) := by decide +kernel
theorem dX9_append_25 : decode cX9_append 25 = .ok (.iload_n 1, 1) := by decide +kernel
theorem dX9_append_26 : decode cX9_append 26 = .ok (.iload_n 2, 1) := by decide +kernel
theorem dX9_append_27 : decode cX9_append 27 = .ok (.ishr, 1) := by decide +kernel
theorem dX9_append_28 : decode cX9_append 28 = .ok (.i2b, 1) := by decide +kernel
theorem dX9_append_29 : decode cX9_append 29 = .ok (.bastore, 1) := by decide +kernel
theorem dX9_append_30 : decode cX9_append 30 = .ok (.aload_n 0, 1) := by decide +kernel
theorem dX9_append_31 : decode cX9_append 31 = .ok (.dup, 1) := by decide +kernel
theorem dX9_append_32 : decode cX9_append 32 = .ok (.getfield 15, 3) := by decide +kernel
theorem dX9_append_35 : decode cX9_append 35 = .ok (.iconst 1, 1) := by decide +kernel
theorem dX9_append_36 : decode cX9_append 36 = .ok (.iadd, 1) := by decide +kernel
theorem dX9_append_37 : decode cX9_append 37 = .ok (.putfield 15, 3) := by decide +kernel
theorem dX9_append_40 : decode cX9_append 40 = .ok (.iinc 2 (-8), 3) := by decide +kernel
theorem dX9_append_43 : decode cX9_append 43 = .ok (.goto (-40), 3) := by decide +kernel
theorem dX9_append_46 : decode cX9_append 46 = .ok (.return_, 1) := by decide +kernel
theorem dX9_rewind_0 : decode cX9_rewind 0 = .ok (.aload_n 0, 1) := by decide +kernel
theorem dX9_rewind_1 : decode cX9_rewind 1 = .ok (.iconst 0, 1) := by decide +kernel
theorem dX9_rewind_2 : decode cX9_rewind 2 = .ok (.putfield 19, 3) := by decide +kernel
theorem dX9_rewind_5 : decode cX9_rewind 5 = .ok (.aload_n 0, 1) := by decide +kernel
theorem dX9_rewind_6 : decode cX9_rewind 6 = .ok (.invokevirtual 22, 3) := by decide +kernel
theorem dX9_rewind_9 : decode cX9_rewind 9 = .ok (.return_, 1) := by decide +kernel
theorem dX9_next_0 : decode cX9_next 0 = .ok (.aload_n 0, 1) := by decide +kernel
theorem dX9_next_1 : decode cX9_next 1 = .ok (.getfield 19, 3) := by decide +kernel
theorem dX9_next_4 : decode cX9_next 4 = .ok (.aload_n 0, 1) := by decide +kernel
theorem dX9_next_5 : decode cX9_next 5 = .ok (.getfield 15, 3) := by decide +kernel
theorem dX9_next_8 : decode cX9_next 8 = .ok (.if_icmp .ge 30, 3) := by decide +kernel
theorem dX9_next_11 : decode cX9_next 11 = .ok (.aload_n 0, 1) := by decide +kernel
theorem dX9_next_12 : decode cX9_next 12 = .ok (.aload_n 0, 1) := by decide +kernel
theorem dX9_next_13 : decode cX9_next 13 = .ok (.getfield 19, 3) := by decide +kernel
theorem dX9_next_16 : decode cX9_next 16 = .ok (.invokevirtual 25, 3) := by decide +kernel
theorem dX9_next_19 : decode cX9_next 19 = .ok (.invokestatic 29, 3) := by decide +kernel
theorem dX9_next_22 : decode cX9_next 22 = .ok (.ifCond .eq 16, 3) := by decide +kernel
theorem dX9_next_25 : decode cX9_next 25 = .ok (.aload_n 0, 1) := by decide +kernel
theorem dX9_next_26 : decode cX9_next 26 = .ok (.dup, 1) := by decide +kernel
theorem dX9_next_27 : decode cX9_next 27 = .ok (.getfield 19, 3) := by decide +kernel
theorem dX9_next_30 : decode cX9_next 30 = .ok (.iconst 1, 1) := by decide +kernel
theorem dX9_next_31 : decode cX9_next 31 = .ok (.iadd, 1) := by decide +kernel
theorem dX9_next_32 : decode cX9_next 32 = .ok (.putfield 19, 3) := by decide +kernel
theorem dX9_next_35 : decode cX9_next 35 = .ok (.goto (-35), 3) := by decide +kernel
theorem dX9_next_38 : decode cX9_next 38 = .ok (.aload_n 0, 1) := by decide +kernel
theorem dX9_next_39 : decode cX9_next 39 = .ok (.aload_n 0, 1) := by decide +kernel
theorem dX9_next_40 : decode cX9_next 40 = .ok (.getfield 19, 3) := by decide +kernel
theorem dX9_next_43 : decode cX9_next 43 = .ok (.putfield 33, 3) := by decide +kernel
theorem dX9_next_46 : decode cX9_next 46 = .ok (.aload_n 0, 1) := by decide +kernel
theorem dX9_next_47 : decode cX9_next 47 = .ok (.aload_n 0, 1) := by decide +kernel
theorem dX9_next_48 : decode cX9_next 48 = .ok (.getfield 19, 3) := by decide +kernel
theorem dX9_next_51 : decode cX9_next 51 = .ok (.invokevirtual 25, 3) := by decide +kernel
theorem dX9_next_54 : decode cX9_next 54 = .ok (.istore_n 1, 1) := by decide +kernel
theorem dX9_next_55 : decode cX9_next 55 = .ok (.iload_n 1, 1) := by decide +kernel
theorem dX9_next_56 : decode cX9_next 56 = .ok (.iconst (-1), 1) := by decide +kernel
theorem dX9_next_57 : decode cX9_next 57 = .ok (.if_icmp .ne 11, 3) := by decide +kernel
theorem dX9_next_60 : decode cX9_next 60 = .ok (.aload_n 0, 1) := by decide +kernel
theorem dX9_next_61 : decode cX9_next 61 = .ok (.iconst 0, 1) := by decide +kernel
theorem dX9_next_62 : decode cX9_next 62 = .ok (.putfield 36, 3) := by decide +kernel
theorem dX9_next_65 : decode cX9_next 65 = .ok (.goto 57, 3) := by decide +kernel
theorem dX9_next_68 : decode cX9_next 68 = .ok (.iload_n 1, 1) := by decide +kernel
theorem dX9_next_69 : decode cX9_next 69 = .ok (.invokestatic 39, 3) := by decide +kernel
theorem dX9_next_72 : decode cX9_next 72 = .ok (.ifCond .eq 10, 3) := by decide +kernel
theorem dX9_next_75 : decode cX9_next 75 = .ok (.aload_n 0, 1) := by decide +kernel
theorem dX9_next_76 : decode cX9_next 76 = .ok (.invokevirtual 42, 3) := by decide +kernel
theorem dX9_next_79 : decode cX9_next 79 = .ok (.goto 43, 3) := by decide +kernel
theorem dX9_next_82 : decode cX9_next 82 = .ok (.iload_n 1, 1) := by decide +kernel
theorem dX9_next_83 : decode cX9_next 83 = .ok (.invokestatic 45, 3) := by decide +kernel
theorem dX9_next_86 : decode cX9_next 86 = .ok (.ifCond .eq 10, 3) := by decide +kernel
theorem dX9_next_89 : decode cX9_next 89 = .ok (.aload_n 0, 1) := by decide +kernel
theorem dX9_next_90 : decode cX9_next 90 = .ok (.invokevirtual 48, 3) := by decide +kernel
theorem dX9_next_93 : decode cX9_next 93 = .ok (.goto 29, 3) := by decide +kernel
theorem dX9_next_96 : decode cX9_next 96 = .ok (.aload_n 0, 1) := by decide +kernel
theorem dX9_next_97 : decode cX9_next 97 = .ok (.iload_n 1, 1) := by decide +kernel
theorem dX9_next_98 : decode cX9_next 98 = .ok (.invokestatic 51, 3) := by decide +kernel
theorem dX9_next_101 : decode cX9_next 101 = .ok (.ifCond .eq 7, 3) := by decide +kernel
theorem dX9_next_104 : decode cX9_next 104 = .ok (.iload_n 1, 1) := by decide +kernel
theorem dX9_next_105 : decode cX9_next 105 = .ok (.goto 4, 3) := by decide +kernel
theorem dX9_next_108 : decode cX9_next 108 = .ok (.iconst 1, 1) := by decide +kernel
theorem dX9_next_109 : decode cX9_next 109 = .ok (.putfield 36, 3) := by decide +kernel
theorem dX9_next_112 : decode cX9_next 112 = .ok (.aload_n 0, 1) := by decide +kernel
theorem dX9_next_113 : decode cX9_next 113 = .ok (.dup, 1) := by decide +kernel
theorem dX9_next_114 : decode cX9_next 114 = .ok (.getfield 19, 3) := by decide +kernel
theorem dX9_next_117 : decode cX9_next 117 = .ok (.iconst 1, 1) := by decide +kernel
theorem dX9_next_118 : decode cX9_next 118 = .ok (.iadd, 1) := by decide +kernel
theorem dX9_next_119 : decode cX9_next 119 = .ok (.putfield 19, 3) := by decide +kernel
theorem dX9_next_122 : decode cX9_next 122 = .ok (.return_, 1) := by decide +kernel
theorem dX9_readWord_0 : decode cX9_readWord 0 = .ok (.aload_n 0, 1) := by decide +kernel
theorem dX9_readWord_1 : decode cX9_readWord 1 = .ok (.lconst 0, 1) := by decide +kernel
theorem dX9_readWord_2 : decode cX9_readWord 2 = .ok (.putfield 54, 3) := by decide +kernel
theorem dX9_readWord_5 : decode cX9_readWord 5 = .ok (.aload_n 0, 1) := by decide +kernel
theorem dX9_readWord_6 : decode cX9_readWord 6 = .ok (.getfield 19, 3) := by decide +kernel
theorem dX9_readWord_9 : decode cX9_readWord 9 = .ok (.aload_n 0, 1) := by decide +kernel
theorem dX9_readWord_10 : decode cX9_readWord 10 = .ok (.getfield 15, 3) := by decide +kernel
theorem dX9_readWord_13 : decode cX9_readWord 13 = .ok (.if_icmp .ge 51, 3) := by decide +kernel
theorem dX9_readWord_16 : decode cX9_readWord 16 = .ok (.aload_n 0, 1) := by decide +kernel
theorem dX9_readWord_17 : decode cX9_readWord 17 = .ok (.aload_n 0, 1) := by decide +kernel
theorem dX9_readWord_18 : decode cX9_readWord 18 = .ok (.getfield 19, 3) := by decide +kernel
theorem dX9_readWord_21 : decode cX9_readWord 21 = .ok (.invokevirtual 25, 3) := by decide +kernel
theorem dX9_readWord_24 : decode cX9_readWord 24 = .ok (.invokestatic 58, 3) := by decide +kernel
theorem dX9_readWord_27 : decode cX9_readWord 27 = .ok (.ifCond .eq 37, 3) := by decide +kernel
theorem dX9_readWord_30 : decode cX9_readWord 30 = .ok (.aload_n 0, 1) := by decide +kernel
theorem dX9_readWord_31 : decode cX9_readWord 31 = .ok (.aload_n 0, 1) := by decide +kernel
theorem dX9_readWord_32 : decode cX9_readWord 32 = .ok (.getfield 54, 3) := by decide +kernel
theorem dX9_readWord_35 : decode cX9_readWord 35 = .ok (.bipush 8, 2) := by decide +kernel
theorem dX9_readWord_37 : decode cX9_readWord 37 = .ok (.lshl, 1) := by decide +kernel
theorem dX9_readWord_38 : decode cX9_readWord 38 = .ok (.aload_n 0, 1) := by decide +kernel
theorem dX9_readWord_39 : decode cX9_readWord 39 = .ok (.aload_n 0, 1) := by decide +kernel
theorem dX9_readWord_40 : decode cX9_readWord 40 = .ok (.getfield 19, 3) := by decide +kernel
theorem dX9_readWord_43 : decode cX9_readWord 43 = .ok (.invokevirtual 25, 3) := by decide +kernel
theorem dX9_readWord_46 : decode cX9_readWord 46 = .ok (.i2l, 1) := by decide +kernel
theorem dX9_readWord_47 : decode cX9_readWord 47 = .ok (.lor, 1) := by decide +kernel
theorem dX9_readWord_48 : decode cX9_readWord 48 = .ok (.putfield 54, 3) := by decide +kernel
theorem dX9_readWord_51 : decode cX9_readWord 51 = .ok (.aload_n 0, 1) := by decide +kernel
theorem dX9_readWord_52 : decode cX9_readWord 52 = .ok (.dup, 1) := by decide +kernel
theorem dX9_readWord_53 : decode cX9_readWord 53 = .ok (.getfield 19, 3) := by decide +kernel
theorem dX9_readWord_56 : decode cX9_readWord 56 = .ok (.iconst 1, 1) := by decide +kernel
theorem dX9_readWord_57 : decode cX9_readWord 57 = .ok (.iadd, 1) := by decide +kernel
theorem dX9_readWord_58 : decode cX9_readWord 58 = .ok (.putfield 19, 3) := by decide +kernel
theorem dX9_readWord_61 : decode cX9_readWord 61 = .ok (.goto (-56), 3) := by decide +kernel
theorem dX9_readWord_64 : decode cX9_readWord 64 = .ok (.aload_n 0, 1) := by decide +kernel
theorem dX9_readWord_65 : decode cX9_readWord 65 = .ok (.aload_n 0, 1) := by decide +kernel
theorem dX9_readWord_66 : decode cX9_readWord 66 = .ok (.getfield 19, 3) := by decide +kernel
theorem dX9_readWord_69 : decode cX9_readWord 69 = .ok (.aload_n 0, 1) := by decide +kernel
theorem dX9_readWord_70 : decode cX9_readWord 70 = .ok (.getfield 33, 3) := by decide +kernel
theorem dX9_readWord_73 : decode cX9_readWord 73 = .ok (.isub, 1) := by decide +kernel
theorem dX9_readWord_74 : decode cX9_readWord 74 = .ok (.bipush 8, 2) := by decide +kernel
theorem dX9_readWord_76 : decode cX9_readWord 76 = .ok (.if_icmp .le 7, 3) := by decide +kernel
theorem dX9_readWord_79 : decode cX9_readWord 79 = .ok (.iconst 1, 1) := by decide +kernel
theorem dX9_readWord_80 : decode cX9_readWord 80 = .ok (.goto 10, 3) := by decide +kernel
theorem dX9_readWord_83 : decode cX9_readWord 83 = .ok (.aload_n 0, 1) := by decide +kernel
theorem dX9_readWord_84 : decode cX9_readWord 84 = .ok (.getfield 54, 3) := by decide +kernel
theorem dX9_readWord_87 : decode cX9_readWord 87 = .ok (.invokestatic 61, 3) := by decide +kernel
theorem dX9_readWord_90 : decode cX9_readWord 90 = .ok (.putfield 36, 3) := by decide +kernel
theorem dX9_readWord_93 : decode cX9_readWord 93 = .ok (.return_, 1) := by decide +kernel
theorem dX9_readNumber_0 : decode cX9_readNumber 0 = .ok (.aload_n 0, 1) := by decide +kernel
theorem dX9_readNumber_1 : decode cX9_readNumber 1 = .ok (.iconst 0, 1) := by decide +kernel
theorem dX9_readNumber_2 : decode cX9_readNumber 2 = .ok (.putfield 65, 3) := by decide +kernel
theorem dX9_readNumber_5 : decode cX9_readNumber 5 = .ok (.aload_n 0, 1) := by decide +kernel
theorem dX9_readNumber_6 : decode cX9_readNumber 6 = .ok (.getfield 19, 3) := by decide +kernel
theorem dX9_readNumber_9 : decode cX9_readNumber 9 = .ok (.aload_n 0, 1) := by decide +kernel
theorem dX9_readNumber_10 : decode cX9_readNumber 10 = .ok (.getfield 15, 3) := by decide +kernel
theorem dX9_readNumber_13 : decode cX9_readNumber 13 = .ok (.if_icmp .ge 53, 3) := by decide +kernel
theorem dX9_readNumber_16 : decode cX9_readNumber 16 = .ok (.aload_n 0, 1) := by decide +kernel
theorem dX9_readNumber_17 : decode cX9_readNumber 17 = .ok (.aload_n 0, 1) := by decide +kernel
theorem dX9_readNumber_18 : decode cX9_readNumber 18 = .ok (.getfield 19, 3) := by decide +kernel
theorem dX9_readNumber_21 : decode cX9_readNumber 21 = .ok (.invokevirtual 25, 3) := by decide +kernel
theorem dX9_readNumber_24 : decode cX9_readNumber 24 = .ok (.invokestatic 45, 3) := by decide +kernel
theorem dX9_readNumber_27 : decode cX9_readNumber 27 = .ok (.ifCond .eq 39, 3) := by decide +kernel
theorem dX9_readNumber_30 : decode cX9_readNumber 30 = .ok (.aload_n 0, 1) := by decide +kernel
theorem dX9_readNumber_31 : decode cX9_readNumber 31 = .ok (.aload_n 0, 1) := by decide +kernel
theorem dX9_readNumber_32 : decode cX9_readNumber 32 = .ok (.getfield 65, 3) := by decide +kernel
theorem dX9_readNumber_35 : decode cX9_readNumber 35 = .ok (.bipush 10, 2) := by decide +kernel
theorem dX9_readNumber_37 : decode cX9_readNumber 37 = .ok (.imul, 1) := by decide +kernel
theorem dX9_readNumber_38 : decode cX9_readNumber 38 = .ok (.aload_n 0, 1) := by decide +kernel
theorem dX9_readNumber_39 : decode cX9_readNumber 39 = .ok (.aload_n 0, 1) := by decide +kernel
theorem dX9_readNumber_40 : decode cX9_readNumber 40 = .ok (.getfield 19, 3) := by decide +kernel
theorem dX9_readNumber_43 : decode cX9_readNumber 43 = .ok (.invokevirtual 25, 3) := by decide +kernel
theorem dX9_readNumber_46 : decode cX9_readNumber 46 = .ok (.iadd, 1) := by decide +kernel
theorem dX9_readNumber_47 : decode cX9_readNumber 47 = .ok (.bipush 48, 2) := by decide +kernel
theorem dX9_readNumber_49 : decode cX9_readNumber 49 = .ok (.isub, 1) := by decide +kernel
theorem dX9_readNumber_50 : decode cX9_readNumber 50 = .ok (.putfield 65, 3) := by decide +kernel
theorem dX9_readNumber_53 : decode cX9_readNumber 53 = .ok (.aload_n 0, 1) := by decide +kernel
theorem dX9_readNumber_54 : decode cX9_readNumber 54 = .ok (.dup, 1) := by decide +kernel
theorem dX9_readNumber_55 : decode cX9_readNumber 55 = .ok (.getfield 19, 3) := by decide +kernel
theorem dX9_readNumber_58 : decode cX9_readNumber 58 = .ok (.iconst 1, 1) := by decide +kernel
theorem dX9_readNumber_59 : decode cX9_readNumber 59 = .ok (.iadd, 1) := by decide +kernel
theorem dX9_readNumber_60 : decode cX9_readNumber 60 = .ok (.putfield 19, 3) := by decide +kernel
theorem dX9_readNumber_63 : decode cX9_readNumber 63 = .ok (.goto (-58), 3) := by decide +kernel
theorem dX9_readNumber_66 : decode cX9_readNumber 66 = .ok (.aload_n 0, 1) := by decide +kernel
theorem dX9_readNumber_67 : decode cX9_readNumber 67 = .ok (.aload_n 0, 1) := by decide +kernel
theorem dX9_readNumber_68 : decode cX9_readNumber 68 = .ok (.getfield 19, 3) := by decide +kernel
theorem dX9_readNumber_71 : decode cX9_readNumber 71 = .ok (.aload_n 0, 1) := by decide +kernel
theorem dX9_readNumber_72 : decode cX9_readNumber 72 = .ok (.getfield 33, 3) := by decide +kernel
theorem dX9_readNumber_75 : decode cX9_readNumber 75 = .ok (.isub, 1) := by decide +kernel
theorem dX9_readNumber_76 : decode cX9_readNumber 76 = .ok (.bipush 6, 2) := by decide +kernel
theorem dX9_readNumber_78 : decode cX9_readNumber 78 = .ok (.if_icmp .gt 17, 3) := by decide +kernel
theorem dX9_readNumber_81 : decode cX9_readNumber 81 = .ok (.aload_n 0, 1) := by decide +kernel
theorem dX9_readNumber_82 : decode cX9_readNumber 82 = .ok (.aload_n 0, 1) := by decide +kernel
theorem dX9_readNumber_83 : decode cX9_readNumber 83 = .ok (.getfield 19, 3) := by decide +kernel
theorem dX9_readNumber_86 : decode cX9_readNumber 86 = .ok (.invokevirtual 25, 3) := by decide +kernel
theorem dX9_readNumber_89 : decode cX9_readNumber 89 = .ok (.invokestatic 39, 3) := by decide +kernel
theorem dX9_readNumber_92 : decode cX9_readNumber 92 = .ok (.ifCond .eq 7, 3) := by decide +kernel
theorem dX9_readNumber_95 : decode cX9_readNumber 95 = .ok (.iconst 1, 1) := by decide +kernel
theorem dX9_readNumber_96 : decode cX9_readNumber 96 = .ok (.goto 4, 3) := by decide +kernel
theorem dX9_readNumber_99 : decode cX9_readNumber 99 = .ok (.iconst 2, 1) := by decide +kernel
theorem dX9_readNumber_100 : decode cX9_readNumber 100 = .ok (.putfield 36, 3) := by decide +kernel
theorem dX9_readNumber_103 : decode cX9_readNumber 103 = .ok (.return_, 1) := by decide +kernel
theorem dX9_byteAt_0 : decode cX9_byteAt 0 = .ok (.iload_n 1, 1) := by decide +kernel
theorem dX9_byteAt_1 : decode cX9_byteAt 1 = .ok (.ifCond .lt 31, 3) := by decide +kernel
theorem dX9_byteAt_4 : decode cX9_byteAt 4 = .ok (.iload_n 1, 1) := by decide +kernel
theorem dX9_byteAt_5 : decode cX9_byteAt 5 = .ok (.aload_n 0, 1) := by decide +kernel
theorem dX9_byteAt_6 : decode cX9_byteAt 6 = .ok (.getfield 15, 3) := by decide +kernel
theorem dX9_byteAt_9 : decode cX9_byteAt 9 = .ok (.if_icmp .ge 23, 3) := by decide +kernel
theorem dX9_byteAt_12 : decode cX9_byteAt 12 = .ok (.iload_n 1, 1) := by decide +kernel
theorem dX9_byteAt_13 : decode cX9_byteAt 13 = .ok (.sipush 1400, 3) := by decide +kernel
theorem dX9_byteAt_16 : decode cX9_byteAt 16 = .ok (.if_icmp .ge 16, 3) := by decide +kernel
theorem dX9_byteAt_19 : decode cX9_byteAt 19 = .ok (.aload_n 0, 1) := by decide +kernel
theorem dX9_byteAt_20 : decode cX9_byteAt 20 = .ok (.getfield 9, 3) := by decide +kernel
theorem dX9_byteAt_23 : decode cX9_byteAt 23 = .ok (.iload_n 1, 1) := by decide +kernel
theorem dX9_byteAt_24 : decode cX9_byteAt 24 = .ok (.baload, 1) := by decide +kernel
theorem dX9_byteAt_25 : decode cX9_byteAt 25 = .ok (.sipush 255, 3) := by decide +kernel
theorem dX9_byteAt_28 : decode cX9_byteAt 28 = .ok (.iand, 1) := by decide +kernel
theorem dX9_byteAt_29 : decode cX9_byteAt 29 = .ok (.goto 4, 3) := by decide +kernel
theorem dX9_byteAt_32 : decode cX9_byteAt 32 = .ok (.iconst (-1), 1) := by decide +kernel
theorem dX9_byteAt_33 : decode cX9_byteAt 33 = .ok (.ireturn, 1) := by decide +kernel
theorem dX9_kindOf_0 : decode cX9_kindOf 0 = .ok (.iconst 0, 1) := by decide +kernel
theorem dX9_kindOf_1 : decode cX9_kindOf 1 = .ok (.istore_n 2, 1) := by decide +kernel
theorem dX9_kindOf_2 : decode cX9_kindOf 2 = .ok (.iload_n 2, 1) := by decide +kernel
theorem dX9_kindOf_3 : decode cX9_kindOf 3 = .ok (.getstatic 68, 3) := by decide +kernel
theorem dX9_kindOf_6 : decode cX9_kindOf 6 = .ok (.arraylength, 1) := by decide +kernel
theorem dX9_kindOf_7 : decode cX9_kindOf 7 = .ok (.if_icmp .ge 25, 3) := by decide +kernel
theorem dX9_kindOf_10 : decode cX9_kindOf 10 = .ok (.getstatic 68, 3) := by decide +kernel
theorem dX9_kindOf_13 : decode cX9_kindOf 13 = .ok (.iload_n 2, 1) := by decide +kernel
theorem dX9_kindOf_14 : decode cX9_kindOf 14 = .ok (.laload, 1) := by decide +kernel
theorem dX9_kindOf_15 : decode cX9_kindOf 15 = .ok (.lload_n 0, 1) := by decide +kernel
theorem dX9_kindOf_16 : decode cX9_kindOf 16 = .ok (.lcmp, 1) := by decide +kernel
theorem dX9_kindOf_17 : decode cX9_kindOf 17 = .ok (.ifCond .ne 9, 3) := by decide +kernel
theorem dX9_kindOf_20 : decode cX9_kindOf 20 = .ok (.sipush 200, 3) := by decide +kernel
theorem dX9_kindOf_23 : decode cX9_kindOf 23 = .ok (.iload_n 2, 1) := by decide +kernel
theorem dX9_kindOf_24 : decode cX9_kindOf 24 = .ok (.iadd, 1) := by decide +kernel
theorem dX9_kindOf_25 : decode cX9_kindOf 25 = .ok (.ireturn, 1) := by decide +kernel
theorem dX9_kindOf_26 : decode cX9_kindOf 26 = .ok (.iinc 2 1, 3) := by decide +kernel
theorem dX9_kindOf_29 : decode cX9_kindOf 29 = .ok (.goto (-27), 3) := by decide +kernel
theorem dX9_kindOf_32 : decode cX9_kindOf 32 = .ok (.iconst 3, 1) := by decide +kernel
theorem dX9_kindOf_33 : decode cX9_kindOf 33 = .ok (.ireturn, 1) := by decide +kernel
theorem dX9_isWord_0 : decode cX9_isWord 0 = .ok (.iconst 0, 1) := by decide +kernel
theorem dX9_isWord_1 : decode cX9_isWord 1 = .ok (.istore_n 2, 1) := by decide +kernel
theorem dX9_isWord_2 : decode cX9_isWord 2 = .ok (.bipush 56, 2) := by decide +kernel
theorem dX9_isWord_4 : decode cX9_isWord 4 = .ok (.istore_n 3, 1) := by decide +kernel
theorem dX9_isWord_5 : decode cX9_isWord 5 = .ok (.iload_n 3, 1) := by decide +kernel
theorem dX9_isWord_6 : decode cX9_isWord 6 = .ok (.ifCond .lt 64, 3) := by decide +kernel
theorem dX9_isWord_9 : decode cX9_isWord 9 = .ok (.lload_n 0, 1) := by decide +kernel
theorem dX9_isWord_10 : decode cX9_isWord 10 = .ok (.iload_n 3, 1) := by decide +kernel
theorem dX9_isWord_11 : decode cX9_isWord 11 = .ok (.lushr, 1) := by decide +kernel
theorem dX9_isWord_12 : decode cX9_isWord 12 = .ok (.l2i, 1) := by decide +kernel
theorem dX9_isWord_13 : decode cX9_isWord 13 = .ok (.sipush 255, 3) := by decide +kernel
theorem dX9_isWord_16 : decode cX9_isWord 16 = .ok (.iand, 1) := by decide +kernel
theorem dX9_isWord_17 : decode cX9_isWord 17 = .ok (.istore 4, 2) := by decide +kernel
theorem dX9_isWord_19 : decode cX9_isWord 19 = .ok (.iload_n 2, 1) := by decide +kernel
theorem dX9_isWord_20 : decode cX9_isWord 20 = .ok (.ifCond .eq 14, 3) := by decide +kernel
theorem dX9_isWord_23 : decode cX9_isWord 23 = .ok (.iload 4, 2) := by decide +kernel
theorem dX9_isWord_25 : decode cX9_isWord 25 = .ok (.invokestatic 58, 3) := by decide +kernel
theorem dX9_isWord_28 : decode cX9_isWord 28 = .ok (.ifCond .ne 21, 3) := by decide +kernel
theorem dX9_isWord_31 : decode cX9_isWord 31 = .ok (.goto 16, 3) := by decide +kernel
theorem dX9_isWord_34 : decode cX9_isWord 34 = .ok (.iload 4, 2) := by decide +kernel
theorem dX9_isWord_36 : decode cX9_isWord 36 = .ok (.ifCond .eq 13, 3) := by decide +kernel
theorem dX9_isWord_39 : decode cX9_isWord 39 = .ok (.iload 4, 2) := by decide +kernel
theorem dX9_isWord_41 : decode cX9_isWord 41 = .ok (.invokestatic 39, 3) := by decide +kernel
theorem dX9_isWord_44 : decode cX9_isWord 44 = .ok (.ifCond .ne 5, 3) := by decide +kernel
theorem dX9_isWord_47 : decode cX9_isWord 47 = .ok (.iconst 0, 1) := by decide +kernel
theorem dX9_isWord_48 : decode cX9_isWord 48 = .ok (.ireturn, 1) := by decide +kernel
theorem dX9_isWord_49 : decode cX9_isWord 49 = .ok (.iload_n 2, 1) := by decide +kernel
theorem dX9_isWord_50 : decode cX9_isWord 50 = .ok (.ifCond .ne 8, 3) := by decide +kernel
theorem dX9_isWord_53 : decode cX9_isWord 53 = .ok (.iload 4, 2) := by decide +kernel
theorem dX9_isWord_55 : decode cX9_isWord 55 = .ok (.ifCond .eq 7, 3) := by decide +kernel
theorem dX9_isWord_58 : decode cX9_isWord 58 = .ok (.iconst 1, 1) := by decide +kernel
theorem dX9_isWord_59 : decode cX9_isWord 59 = .ok (.goto 4, 3) := by decide +kernel
theorem dX9_isWord_62 : decode cX9_isWord 62 = .ok (.iconst 0, 1) := by decide +kernel
theorem dX9_isWord_63 : decode cX9_isWord 63 = .ok (.istore_n 2, 1) := by decide +kernel
theorem dX9_isWord_64 : decode cX9_isWord 64 = .ok (.iinc 3 (-8), 3) := by decide +kernel
theorem dX9_isWord_67 : decode cX9_isWord 67 = .ok (.goto (-62), 3) := by decide +kernel
theorem dX9_isWord_70 : decode cX9_isWord 70 = .ok (.iload_n 2, 1) := by decide +kernel
theorem dX9_isWord_71 : decode cX9_isWord 71 = .ok (.ireturn, 1) := by decide +kernel
theorem dX9_isBlank_0 : decode cX9_isBlank 0 = .ok (.iload_n 0, 1) := by decide +kernel
theorem dX9_isBlank_1 : decode cX9_isBlank 1 = .ok (.bipush 32, 2) := by decide +kernel
theorem dX9_isBlank_3 : decode cX9_isBlank 3 = .ok (.if_icmp .eq 9, 3) := by decide +kernel
theorem dX9_isBlank_6 : decode cX9_isBlank 6 = .ok (.iload_n 0, 1) := by decide +kernel
theorem dX9_isBlank_7 : decode cX9_isBlank 7 = .ok (.bipush 10, 2) := by decide +kernel
theorem dX9_isBlank_9 : decode cX9_isBlank 9 = .ok (.if_icmp .ne 7, 3) := by decide +kernel
theorem dX9_isBlank_12 : decode cX9_isBlank 12 = .ok (.iconst 1, 1) := by decide +kernel
theorem dX9_isBlank_13 : decode cX9_isBlank 13 = .ok (.goto 4, 3) := by decide +kernel
theorem dX9_isBlank_16 : decode cX9_isBlank 16 = .ok (.iconst 0, 1) := by decide +kernel
theorem dX9_isBlank_17 : decode cX9_isBlank 17 = .ok (.ireturn, 1) := by decide +kernel
theorem dX9_isLetter_0 : decode cX9_isLetter 0 = .ok (.iload_n 0, 1) := by decide +kernel
theorem dX9_isLetter_1 : decode cX9_isLetter 1 = .ok (.bipush 97, 2) := by decide +kernel
theorem dX9_isLetter_3 : decode cX9_isLetter 3 = .ok (.if_icmp .lt 13, 3) := by decide +kernel
theorem dX9_isLetter_6 : decode cX9_isLetter 6 = .ok (.iload_n 0, 1) := by decide +kernel
theorem dX9_isLetter_7 : decode cX9_isLetter 7 = .ok (.bipush 122, 2) := by decide +kernel
theorem dX9_isLetter_9 : decode cX9_isLetter 9 = .ok (.if_icmp .gt 7, 3) := by decide +kernel
theorem dX9_isLetter_12 : decode cX9_isLetter 12 = .ok (.iconst 1, 1) := by decide +kernel
theorem dX9_isLetter_13 : decode cX9_isLetter 13 = .ok (.goto 4, 3) := by decide +kernel
theorem dX9_isLetter_16 : decode cX9_isLetter 16 = .ok (.iconst 0, 1) := by decide +kernel
theorem dX9_isLetter_17 : decode cX9_isLetter 17 = .ok (.ireturn, 1) := by decide +kernel
theorem dX9_isDigit_0 : decode cX9_isDigit 0 = .ok (.iload_n 0, 1) := by decide +kernel
theorem dX9_isDigit_1 : decode cX9_isDigit 1 = .ok (.bipush 48, 2) := by decide +kernel
theorem dX9_isDigit_3 : decode cX9_isDigit 3 = .ok (.if_icmp .lt 13, 3) := by decide +kernel
theorem dX9_isDigit_6 : decode cX9_isDigit 6 = .ok (.iload_n 0, 1) := by decide +kernel
theorem dX9_isDigit_7 : decode cX9_isDigit 7 = .ok (.bipush 57, 2) := by decide +kernel
theorem dX9_isDigit_9 : decode cX9_isDigit 9 = .ok (.if_icmp .gt 7, 3) := by decide +kernel
theorem dX9_isDigit_12 : decode cX9_isDigit 12 = .ok (.iconst 1, 1) := by decide +kernel
theorem dX9_isDigit_13 : decode cX9_isDigit 13 = .ok (.goto 4, 3) := by decide +kernel
theorem dX9_isDigit_16 : decode cX9_isDigit 16 = .ok (.iconst 0, 1) := by decide +kernel
theorem dX9_isDigit_17 : decode cX9_isDigit 17 = .ok (.ireturn, 1) := by decide +kernel
theorem dX9_isLetterOrDigit_0 : decode cX9_isLetterOrDigit 0 = .ok (.iload_n 0, 1) := by decide +kernel
theorem dX9_isLetterOrDigit_1 : decode cX9_isLetterOrDigit 1 = .ok (.bipush 97, 2) := by decide +kernel
theorem dX9_isLetterOrDigit_3 : decode cX9_isLetterOrDigit 3 = .ok (.if_icmp .lt 9, 3) := by decide +kernel
theorem dX9_isLetterOrDigit_6 : decode cX9_isLetterOrDigit 6 = .ok (.iload_n 0, 1) := by decide +kernel
theorem dX9_isLetterOrDigit_7 : decode cX9_isLetterOrDigit 7 = .ok (.bipush 122, 2) := by decide +kernel
theorem dX9_isLetterOrDigit_9 : decode cX9_isLetterOrDigit 9 = .ok (.if_icmp .le 15, 3) := by decide +kernel
theorem dX9_isLetterOrDigit_12 : decode cX9_isLetterOrDigit 12 = .ok (.iload_n 0, 1) := by decide +kernel
theorem dX9_isLetterOrDigit_13 : decode cX9_isLetterOrDigit 13 = .ok (.bipush 48, 2) := by decide +kernel
theorem dX9_isLetterOrDigit_15 : decode cX9_isLetterOrDigit 15 = .ok (.if_icmp .lt 13, 3) := by decide +kernel
theorem dX9_isLetterOrDigit_18 : decode cX9_isLetterOrDigit 18 = .ok (.iload_n 0, 1) := by decide +kernel
theorem dX9_isLetterOrDigit_19 : decode cX9_isLetterOrDigit 19 = .ok (.bipush 57, 2) := by decide +kernel
theorem dX9_isLetterOrDigit_21 : decode cX9_isLetterOrDigit 21 = .ok (.if_icmp .gt 7, 3) := by decide +kernel
theorem dX9_isLetterOrDigit_24 : decode cX9_isLetterOrDigit 24 = .ok (.iconst 1, 1) := by decide +kernel
