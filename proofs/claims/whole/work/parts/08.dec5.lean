theorem dX11_grade_89 : decode cX11_grade 89 = .ok (.aload_n 0, 1) := by decide +kernel
theorem dX11_grade_90 : decode cX11_grade 90 = .ok (.getfield 127, 3) := by decide +kernel
theorem dX11_grade_93 : decode cX11_grade 93 = .ok (.iload 4, 2) := by decide +kernel
theorem dX11_grade_95 : decode cX11_grade 95 = .ok (.iaload, 1) := by decide +kernel
theorem dX11_grade_96 : decode cX11_grade 96 = .ok (.if_icmp .ge 21, 3) := by decide +kernel
theorem dX11_grade_99 : decode cX11_grade 99 = .ok (.aload_n 0, 1) := by decide +kernel
theorem dX11_grade_100 : decode cX11_grade 100 = .ok (.getfield 130, 3) := by decide +kernel
theorem dX11_grade_103 : decode cX11_grade 103 = .ok (.bipush 6, 2) := by decide +kernel
theorem dX11_grade_105 : decode cX11_grade 105 = .ok (.iload 4, 2) := by decide +kernel
theorem dX11_grade_107 : decode cX11_grade 107 = .ok (.imul, 1) := by decide +kernel
theorem dX11_grade_108 : decode cX11_grade 108 = .ok (.iload_n 3, 1) := by decide +kernel
theorem dX11_grade_109 : decode cX11_grade 109 = .ok (.iadd, 1) := by decide +kernel
theorem dX11_grade_110 : decode cX11_grade 110 = .ok (.bipush 10, 2) := by decide +kernel
theorem dX11_grade_112 : decode cX11_grade 112 = .ok (.isub, 1) := by decide +kernel
theorem dX11_grade_113 : decode cX11_grade 113 = .ok (.iaload, 1) := by decide +kernel
theorem dX11_grade_114 : decode cX11_grade 114 = .ok (.goto 4, 3) := by decide +kernel
theorem dX11_grade_117 : decode cX11_grade 117 = .ok (.iconst (-1), 1) := by decide +kernel
theorem dX11_grade_118 : decode cX11_grade 118 = .ok (.ireturn, 1) := by decide +kernel
theorem dX11_isEntry_0 : decode cX11_isEntry 0 = .ok (.iload_n 1, 1) := by decide +kernel
theorem dX11_isEntry_1 : decode cX11_isEntry 1 = .ok (.ifCond .lt 15, 3) := by decide +kernel
theorem dX11_isEntry_4 : decode cX11_isEntry 4 = .ok (.iload_n 1, 1) := by decide +kernel
theorem dX11_isEntry_5 : decode cX11_isEntry 5 = .ok (.aload_n 0, 1) := by decide +kernel
theorem dX11_isEntry_6 : decode cX11_isEntry 6 = .ok (.getfield 354, 3) := by decide +kernel
theorem dX11_isEntry_9 : decode cX11_isEntry 9 = .ok (.if_icmp .ge 7, 3) := by decide +kernel
theorem dX11_isEntry_12 : decode cX11_isEntry 12 = .ok (.iconst 1, 1) := by decide +kernel
theorem dX11_isEntry_13 : decode cX11_isEntry 13 = .ok (.goto 4, 3) := by decide +kernel
theorem dX11_isEntry_16 : decode cX11_isEntry 16 = .ok (.iconst 0, 1) := by decide +kernel
theorem dX11_isEntry_17 : decode cX11_isEntry 17 = .ok (.ireturn, 1) := by decide +kernel
theorem dX11_entry_0 : decode cX11_entry 0 = .ok (.iload_n 1, 1) := by decide +kernel
theorem dX11_entry_1 : decode cX11_entry 1 = .ok (.ifCond .lt 78, 3) := by decide +kernel
theorem dX11_entry_4 : decode cX11_entry 4 = .ok (.iload_n 1, 1) := by decide +kernel
theorem dX11_entry_5 : decode cX11_entry 5 = .ok (.bipush 99, 2) := by decide +kernel
theorem dX11_entry_7 : decode cX11_entry 7 = .ok (.if_icmp .gt 72, 3) := by decide +kernel
theorem dX11_entry_10 : decode cX11_entry 10 = .ok (.iload_n 2, 1) := by decide +kernel
theorem dX11_entry_11 : decode cX11_entry 11 = .ok (.ifCond .lt 68, 3) := by decide +kernel
theorem dX11_entry_14 : decode cX11_entry 14 = .ok (.iload_n 2, 1) := by decide +kernel
theorem dX11_entry_15 : decode cX11_entry 15 = .ok (.iconst 4, 1) := by decide +kernel
theorem dX11_entry_16 : decode cX11_entry 16 = .ok (.if_icmp .ge 63, 3) := by decide +kernel
theorem dX11_entry_19 : decode cX11_entry 19 = .ok (.iload_n 3, 1) := by decide +kernel
theorem dX11_entry_20 : decode cX11_entry 20 = .ok (.iconst 1, 1) := by decide +kernel
theorem dX11_entry_21 : decode cX11_entry 21 = .ok (.if_icmp .lt 58, 3) := by decide +kernel
theorem dX11_entry_24 : decode cX11_entry 24 = .ok (.iload_n 3, 1) := by decide +kernel
theorem dX11_entry_25 : decode cX11_entry 25 = .ok (.bipush 8, 2) := by decide +kernel
theorem dX11_entry_27 : decode cX11_entry 27 = .ok (.if_icmp .gt 52, 3) := by decide +kernel
theorem dX11_entry_30 : decode cX11_entry 30 = .ok (.iload 4, 2) := by decide +kernel
theorem dX11_entry_32 : decode cX11_entry 32 = .ok (.ifCond .lt 47, 3) := by decide +kernel
theorem dX11_entry_35 : decode cX11_entry 35 = .ok (.iload 4, 2) := by decide +kernel
theorem dX11_entry_37 : decode cX11_entry 37 = .ok (.bipush 7, 2) := by decide +kernel
theorem dX11_entry_39 : decode cX11_entry 39 = .ok (.if_icmp .gt 40, 3) := by decide +kernel
theorem dX11_entry_42 : decode cX11_entry 42 = .ok (.iload 5, 2) := by decide +kernel
theorem dX11_entry_44 : decode cX11_entry 44 = .ok (.iconst 4, 1) := by decide +kernel
theorem dX11_entry_45 : decode cX11_entry 45 = .ok (.if_icmp .lt 34, 3) := by decide +kernel
theorem dX11_entry_48 : decode cX11_entry 48 = .ok (.iload 5, 2) := by decide +kernel
theorem dX11_entry_50 : decode cX11_entry 50 = .ok (.bipush 99, 2) := by decide +kernel
theorem dX11_entry_52 : decode cX11_entry 52 = .ok (.if_icmp .gt 27, 3) := by decide +kernel
theorem dX11_entry_55 : decode cX11_entry 55 = .ok (.iload 6, 2) := by decide +kernel
theorem dX11_entry_57 : decode cX11_entry 57 = .ok (.iconst (-1), 1) := by decide +kernel
theorem dX11_entry_58 : decode cX11_entry 58 = .ok (.if_icmp .lt 21, 3) := by decide +kernel
theorem dX11_entry_61 : decode cX11_entry 61 = .ok (.iload 6, 2) := by decide +kernel
theorem dX11_entry_63 : decode cX11_entry 63 = .ok (.aload_n 0, 1) := by decide +kernel
theorem dX11_entry_64 : decode cX11_entry 64 = .ok (.getfield 357, 3) := by decide +kernel
theorem dX11_entry_67 : decode cX11_entry 67 = .ok (.if_icmp .ge 12, 3) := by decide +kernel
theorem dX11_entry_70 : decode cX11_entry 70 = .ok (.aload_n 0, 1) := by decide +kernel
theorem dX11_entry_71 : decode cX11_entry 71 = .ok (.getfield 354, 3) := by decide +kernel
theorem dX11_entry_74 : decode cX11_entry 74 = .ok (.bipush 40, 2) := by decide +kernel
theorem dX11_entry_76 : decode cX11_entry 76 = .ok (.if_icmp .ne 5, 3) := by decide +kernel
theorem dX11_entry_79 : decode cX11_entry 79 = .ok (.iconst (-1), 1) := by decide +kernel
theorem dX11_entry_80 : decode cX11_entry 80 = .ok (.ireturn, 1) := by decide +kernel
theorem dX11_entry_81 : decode cX11_entry 81 = .ok (.aload_n 0, 1) := by decide +kernel
theorem dX11_entry_82 : decode cX11_entry 82 = .ok (.getfield 182, 3) := by decide +kernel
theorem dX11_entry_85 : decode cX11_entry 85 = .ok (.aload_n 0, 1) := by decide +kernel
theorem dX11_entry_86 : decode cX11_entry 86 = .ok (.getfield 354, 3) := by decide +kernel
theorem dX11_entry_89 : decode cX11_entry 89 = .ok (.iload_n 1, 1) := by decide +kernel
theorem dX11_entry_90 : decode cX11_entry 90 = .ok (.iastore, 1) := by decide +kernel
theorem dX11_entry_91 : decode cX11_entry 91 = .ok (.aload_n 0, 1) := by decide +kernel
theorem dX11_entry_92 : decode cX11_entry 92 = .ok (.getfield 185, 3) := by decide +kernel
theorem dX11_entry_95 : decode cX11_entry 95 = .ok (.aload_n 0, 1) := by decide +kernel
theorem dX11_entry_96 : decode cX11_entry 96 = .ok (.getfield 354, 3) := by decide +kernel
theorem dX11_entry_99 : decode cX11_entry 99 = .ok (.iload_n 2, 1) := by decide +kernel
theorem dX11_entry_100 : decode cX11_entry 100 = .ok (.iastore, 1) := by decide +kernel
theorem dX11_entry_101 : decode cX11_entry 101 = .ok (.aload_n 0, 1) := by decide +kernel
theorem dX11_entry_102 : decode cX11_entry 102 = .ok (.getfield 188, 3) := by decide +kernel
theorem dX11_entry_105 : decode cX11_entry 105 = .ok (.aload_n 0, 1) := by decide +kernel
theorem dX11_entry_106 : decode cX11_entry 106 = .ok (.getfield 354, 3) := by decide +kernel
theorem dX11_entry_109 : decode cX11_entry 109 = .ok (.iload_n 3, 1) := by decide +kernel
theorem dX11_entry_110 : decode cX11_entry 110 = .ok (.iastore, 1) := by decide +kernel
theorem dX11_entry_111 : decode cX11_entry 111 = .ok (.aload_n 0, 1) := by decide +kernel
theorem dX11_entry_112 : decode cX11_entry 112 = .ok (.getfield 191, 3) := by decide +kernel
theorem dX11_entry_115 : decode cX11_entry 115 = .ok (.aload_n 0, 1) := by decide +kernel
theorem dX11_entry_116 : decode cX11_entry 116 = .ok (.getfield 354, 3) := by decide +kernel
theorem dX11_entry_119 : decode cX11_entry 119 = .ok (.iload 4, 2) := by decide +kernel
theorem dX11_entry_121 : decode cX11_entry 121 = .ok (.iastore, 1) := by decide +kernel
theorem dX11_entry_122 : decode cX11_entry 122 = .ok (.aload_n 0, 1) := by decide +kernel
theorem dX11_entry_123 : decode cX11_entry 123 = .ok (.getfield 194, 3) := by decide +kernel
theorem dX11_entry_126 : decode cX11_entry 126 = .ok (.aload_n 0, 1) := by decide +kernel
theorem dX11_entry_127 : decode cX11_entry 127 = .ok (.getfield 354, 3) := by decide +kernel
theorem dX11_entry_130 : decode cX11_entry 130 = .ok (.iload 5, 2) := by decide +kernel
theorem dX11_entry_132 : decode cX11_entry 132 = .ok (.iastore, 1) := by decide +kernel
theorem dX11_entry_133 : decode cX11_entry 133 = .ok (.aload_n 0, 1) := by decide +kernel
theorem dX11_entry_134 : decode cX11_entry 134 = .ok (.getfield 197, 3) := by decide +kernel
theorem dX11_entry_137 : decode cX11_entry 137 = .ok (.aload_n 0, 1) := by decide +kernel
theorem dX11_entry_138 : decode cX11_entry 138 = .ok (.getfield 354, 3) := by decide +kernel
theorem dX11_entry_141 : decode cX11_entry 141 = .ok (.iload 6, 2) := by decide +kernel
theorem dX11_entry_143 : decode cX11_entry 143 = .ok (.iastore, 1) := by decide +kernel
theorem dX11_entry_144 : decode cX11_entry 144 = .ok (.aload_n 0, 1) := by decide +kernel
theorem dX11_entry_145 : decode cX11_entry 145 = .ok (.getfield 200, 3) := by decide +kernel
theorem dX11_entry_148 : decode cX11_entry 148 = .ok (.aload_n 0, 1) := by decide +kernel
theorem dX11_entry_149 : decode cX11_entry 149 = .ok (.getfield 354, 3) := by decide +kernel
theorem dX11_entry_152 : decode cX11_entry 152 = .ok (.iconst 0, 1) := by decide +kernel
theorem dX11_entry_153 : decode cX11_entry 153 = .ok (.iastore, 1) := by decide +kernel
theorem dX11_entry_154 : decode cX11_entry 154 = .ok (.aload_n 0, 1) := by decide +kernel
theorem dX11_entry_155 : decode cX11_entry 155 = .ok (.getfield 203, 3) := by decide +kernel
theorem dX11_entry_158 : decode cX11_entry 158 = .ok (.aload_n 0, 1) := by decide +kernel
theorem dX11_entry_159 : decode cX11_entry 159 = .ok (.getfield 354, 3) := by decide +kernel
theorem dX11_entry_162 : decode cX11_entry 162 = .ok (.iconst (-1), 1) := by decide +kernel
theorem dX11_entry_163 : decode cX11_entry 163 = .ok (.iastore, 1) := by decide +kernel
theorem dX11_entry_164 : decode cX11_entry 164 = .ok (.aload_n 0, 1) := by decide +kernel
theorem dX11_entry_165 : decode cX11_entry 165 = .ok (.dup, 1) := by decide +kernel
theorem dX11_entry_166 : decode cX11_entry 166 = .ok (.getfield 354, 3) := by decide +kernel
theorem dX11_entry_169 : decode cX11_entry 169 = .ok (.iconst 1, 1) := by decide +kernel
theorem dX11_entry_170 : decode cX11_entry 170 = .ok (.iadd, 1) := by decide +kernel
theorem dX11_entry_171 : decode cX11_entry 171 = .ok (.putfield 354, 3) := by decide +kernel
theorem dX11_entry_174 : decode cX11_entry 174 = .ok (.aload_n 0, 1) := by decide +kernel
theorem dX11_entry_175 : decode cX11_entry 175 = .ok (.getfield 354, 3) := by decide +kernel
theorem dX11_entry_178 : decode cX11_entry 178 = .ok (.iconst 1, 1) := by decide +kernel
theorem dX11_entry_179 : decode cX11_entry 179 = .ok (.isub, 1) := by decide +kernel
theorem dX11_entry_180 : decode cX11_entry 180 = .ok (.ireturn, 1) := by decide +kernel
theorem dX11_isName_0 : decode cX11_isName 0 = .ok (.iconst 0, 1) := by decide +kernel
theorem dX11_isName_1 : decode cX11_isName 1 = .ok (.istore_n 2, 1) := by decide +kernel
theorem dX11_isName_2 : decode cX11_isName 2 = .ok (.bipush 56, 2) := by decide +kernel
theorem dX11_isName_4 : decode cX11_isName 4 = .ok (.istore_n 3, 1) := by decide +kernel
theorem dX11_isName_5 : decode cX11_isName 5 = .ok (.iload_n 3, 1) := by decide +kernel
theorem dX11_isName_6 : decode cX11_isName 6 = .ok (.ifCond .lt 55, 3) := by decide +kernel
theorem dX11_isName_9 : decode cX11_isName 9 = .ok (.lload_n 0, 1) := by decide +kernel
theorem dX11_isName_10 : decode cX11_isName 10 = .ok (.iload_n 3, 1) := by decide +kernel
theorem dX11_isName_11 : decode cX11_isName 11 = .ok (.lshr, 1) := by decide +kernel
theorem dX11_isName_12 : decode cX11_isName 12 = .ok (.ldc2_w 360, 3) := by decide +kernel
theorem dX11_isName_15 : decode cX11_isName 15 = .ok (.land, 1) := by decide +kernel
theorem dX11_isName_16 : decode cX11_isName 16 = .ok (.l2i, 1) := by decide +kernel
theorem dX11_isName_17 : decode cX11_isName 17 = .ok (.istore 4, 2) := by decide +kernel
theorem dX11_isName_19 : decode cX11_isName 19 = .ok (.iload 4, 2) := by decide +kernel
theorem dX11_isName_21 : decode cX11_isName 21 = .ok (.ifCond .ne 10, 3) := by decide +kernel
theorem dX11_isName_24 : decode cX11_isName 24 = .ok (.iload_n 2, 1) := by decide +kernel
theorem dX11_isName_25 : decode cX11_isName 25 = .ok (.ifCond .ne 6, 3) := by decide +kernel
theorem dX11_isName_28 : decode cX11_isName 28 = .ok (.goto 27, 3) := by decide +kernel
theorem dX11_isName_31 : decode cX11_isName 31 = .ok (.iload 4, 2) := by decide +kernel
theorem dX11_isName_33 : decode cX11_isName 33 = .ok (.invokestatic 64, 3) := by decide +kernel
theorem dX11_isName_36 : decode cX11_isName 36 = .ok (.ifCond .ne 17, 3) := by decide +kernel
theorem dX11_isName_39 : decode cX11_isName 39 = .ok (.iload_n 2, 1) := by decide +kernel
theorem dX11_isName_40 : decode cX11_isName 40 = .ok (.ifCond .eq 11, 3) := by decide +kernel
theorem dX11_isName_43 : decode cX11_isName 43 = .ok (.iload 4, 2) := by decide +kernel
theorem dX11_isName_45 : decode cX11_isName 45 = .ok (.invokestatic 68, 3) := by decide +kernel
theorem dX11_isName_48 : decode cX11_isName 48 = .ok (.ifCond .ne 5, 3) := by decide +kernel
theorem dX11_isName_51 : decode cX11_isName 51 = .ok (.iconst 0, 1) := by decide +kernel
theorem dX11_isName_52 : decode cX11_isName 52 = .ok (.ireturn, 1) := by decide +kernel
theorem dX11_isName_53 : decode cX11_isName 53 = .ok (.iconst 1, 1) := by decide +kernel
theorem dX11_isName_54 : decode cX11_isName 54 = .ok (.istore_n 2, 1) := by decide +kernel
theorem dX11_isName_55 : decode cX11_isName 55 = .ok (.iinc 3 (-8), 3) := by decide +kernel
theorem dX11_isName_58 : decode cX11_isName 58 = .ok (.goto (-53), 3) := by decide +kernel
theorem dX11_isName_61 : decode cX11_isName 61 = .ok (.iload_n 2, 1) := by decide +kernel
theorem dX11_isName_62 : decode cX11_isName 62 = .ok (.ireturn, 1) := by decide +kernel
theorem dX11_piece_0 : decode cX11_piece 0 = .ok (.aload_n 0, 1) := by decide +kernel
theorem dX11_piece_1 : decode cX11_piece 1 = .ok (.iload_n 1, 1) := by decide +kernel
theorem dX11_piece_2 : decode cX11_piece 2 = .ok (.invokevirtual 362, 3) := by decide +kernel
theorem dX11_piece_5 : decode cX11_piece 5 = .ok (.ifCond .eq 20, 3) := by decide +kernel
theorem dX11_piece_8 : decode cX11_piece 8 = .ok (.lload_n 2, 1) := by decide +kernel
theorem dX11_piece_9 : decode cX11_piece 9 = .ok (.invokestatic 365, 3) := by decide +kernel
theorem dX11_piece_12 : decode cX11_piece 12 = .ok (.ifCond .eq 13, 3) := by decide +kernel
theorem dX11_piece_15 : decode cX11_piece 15 = .ok (.aload_n 0, 1) := by decide +kernel
theorem dX11_piece_16 : decode cX11_piece 16 = .ok (.getfield 200, 3) := by decide +kernel
theorem dX11_piece_19 : decode cX11_piece 19 = .ok (.iload_n 1, 1) := by decide +kernel
theorem dX11_piece_20 : decode cX11_piece 20 = .ok (.iaload, 1) := by decide +kernel
theorem dX11_piece_21 : decode cX11_piece 21 = .ok (.iconst 4, 1) := by decide +kernel
theorem dX11_piece_22 : decode cX11_piece 22 = .ok (.if_icmp .ne 5, 3) := by decide +kernel
theorem dX11_piece_25 : decode cX11_piece 25 = .ok (.iconst (-1), 1) := by decide +kernel
theorem dX11_piece_26 : decode cX11_piece 26 = .ok (.ireturn, 1) := by decide +kernel
theorem dX11_piece_27 : decode cX11_piece 27 = .ok (.iconst 0, 1) := by decide +kernel
theorem dX11_piece_28 : decode cX11_piece 28 = .ok (.istore 4, 2) := by decide +kernel
theorem dX11_piece_30 : decode cX11_piece 30 = .ok (.iload 4, 2) := by decide +kernel
theorem dX11_piece_32 : decode cX11_piece 32 = .ok (.aload_n 0, 1) := by decide +kernel
theorem dX11_piece_33 : decode cX11_piece 33 = .ok (.getfield 200, 3) := by decide +kernel
theorem dX11_piece_36 : decode cX11_piece 36 = .ok (.iload_n 1, 1) := by decide +kernel
theorem dX11_piece_37 : decode cX11_piece 37 = .ok (.iaload, 1) := by decide +kernel
theorem dX11_piece_38 : decode cX11_piece 38 = .ok (.if_icmp .ge 27, 3) := by decide +kernel
theorem dX11_piece_41 : decode cX11_piece 41 = .ok (.aload_n 0, 1) := by decide +kernel
theorem dX11_piece_42 : decode cX11_piece 42 = .ok (.getfield 206, 3) := by decide +kernel
theorem dX11_piece_45 : decode cX11_piece 45 = .ok (.iconst 4, 1) := by decide +kernel
theorem dX11_piece_46 : decode cX11_piece 46 = .ok (.iload_n 1, 1) := by decide +kernel
theorem dX11_piece_47 : decode cX11_piece 47 = .ok (.imul, 1) := by decide +kernel
theorem dX11_piece_48 : decode cX11_piece 48 = .ok (.iload 4, 2) := by decide +kernel
theorem dX11_piece_50 : decode cX11_piece 50 = .ok (.iadd, 1) := by decide +kernel
theorem dX11_piece_51 : decode cX11_piece 51 = .ok (.laload, 1) := by decide +kernel
theorem dX11_piece_52 : decode cX11_piece 52 = .ok (.lload_n 2, 1) := by decide +kernel
theorem dX11_piece_53 : decode cX11_piece 53 = .ok (.lcmp, 1) := by decide +kernel
theorem dX11_piece_54 : decode cX11_piece 54 = .ok (.ifCond .ne 5, 3) := by decide +kernel
theorem dX11_piece_57 : decode cX11_piece 57 = .ok (.iconst (-1), 1) := by decide +kernel
theorem dX11_piece_58 : decode cX11_piece 58 = .ok (.ireturn, 1) := by decide +kernel
theorem dX11_piece_59 : decode cX11_piece 59 = .ok (.iinc 4 1, 3) := by decide +kernel
theorem dX11_piece_62 : decode cX11_piece 62 = .ok (.goto (-32), 3) := by decide +kernel
theorem dX11_piece_65 : decode cX11_piece 65 = .ok (.aload_n 0, 1) := by decide +kernel
theorem dX11_piece_66 : decode cX11_piece 66 = .ok (.getfield 206, 3) := by decide +kernel
theorem dX11_piece_69 : decode cX11_piece 69 = .ok (.iconst 4, 1) := by decide +kernel
theorem dX11_piece_70 : decode cX11_piece 70 = .ok (.iload_n 1, 1) := by decide +kernel
theorem dX11_piece_71 : decode cX11_piece 71 = .ok (.imul, 1) := by decide +kernel
theorem dX11_piece_72 : decode cX11_piece 72 = .ok (.aload_n 0, 1) := by decide +kernel
theorem dX11_piece_73 : decode cX11_piece 73 = .ok (.getfield 200, 3) := by decide +kernel
theorem dX11_piece_76 : decode cX11_piece 76 = .ok (.iload_n 1, 1) := by decide +kernel
theorem dX11_piece_77 : decode cX11_piece 77 = .ok (.iaload, 1) := by decide +kernel
theorem dX11_piece_78 : decode cX11_piece 78 = .ok (.iadd, 1) := by decide +kernel
theorem dX11_piece_79 : decode cX11_piece 79 = .ok (.lload_n 2, 1) := by decide +kernel
theorem dX11_piece_80 : decode cX11_piece 80 = .ok (.lastore, 1) := by decide +kernel
theorem dX11_piece_81 : decode cX11_piece 81 = .ok (.aload_n 0, 1) := by decide +kernel
theorem dX11_piece_82 : decode cX11_piece 82 = .ok (.getfield 200, 3) := by decide +kernel
theorem dX11_piece_85 : decode cX11_piece 85 = .ok (.iload_n 1, 1) := by decide +kernel
theorem dX11_piece_86 : decode cX11_piece 86 = .ok (.dup2, 1) := by decide +kernel
theorem dX11_piece_87 : decode cX11_piece 87 = .ok (.iaload, 1) := by decide +kernel
theorem dX11_piece_88 : decode cX11_piece 88 = .ok (.iconst 1, 1) := by decide +kernel
theorem dX11_piece_89 : decode cX11_piece 89 = .ok (.iadd, 1) := by decide +kernel
theorem dX11_piece_90 : decode cX11_piece 90 = .ok (.iastore, 1) := by decide +kernel
theorem dX11_piece_91 : decode cX11_piece 91 = .ok (.aload_n 0, 1) := by decide +kernel
theorem dX11_piece_92 : decode cX11_piece 92 = .ok (.getfield 200, 3) := by decide +kernel
theorem dX11_piece_95 : decode cX11_piece 95 = .ok (.iload_n 1, 1) := by decide +kernel
theorem dX11_piece_96 : decode cX11_piece 96 = .ok (.iaload, 1) := by decide +kernel
theorem dX11_piece_97 : decode cX11_piece 97 = .ok (.ireturn, 1) := by decide +kernel
theorem dX11_spotOf_0 : decode cX11_spotOf 0 = .ok (.aload_n 0, 1) := by decide +kernel
theorem dX11_spotOf_1 : decode cX11_spotOf 1 = .ok (.aload_n 0, 1) := by decide +kernel
theorem dX11_spotOf_2 : decode cX11_spotOf 2 = .ok (.getfield 185, 3) := by decide +kernel
theorem dX11_spotOf_5 : decode cX11_spotOf 5 = .ok (.iload_n 1, 1) := by decide +kernel
theorem dX11_spotOf_6 : decode cX11_spotOf 6 = .ok (.iaload, 1) := by decide +kernel
theorem dX11_spotOf_7 : decode cX11_spotOf 7 = .ok (.aload_n 0, 1) := by decide +kernel
theorem dX11_spotOf_8 : decode cX11_spotOf 8 = .ok (.getfield 188, 3) := by decide +kernel
theorem dX11_spotOf_11 : decode cX11_spotOf 11 = .ok (.iload_n 1, 1) := by decide +kernel
theorem dX11_spotOf_12 : decode cX11_spotOf 12 = .ok (.iaload, 1) := by decide +kernel
theorem dX11_spotOf_13 : decode cX11_spotOf 13 = .ok (.invokevirtual 348, 3) := by decide +kernel
theorem dX11_spotOf_16 : decode cX11_spotOf 16 = .ok (.ireturn, 1) := by decide +kernel
theorem dX11_inList_0 : decode cX11_inList 0 = .ok (.iconst 0, 1) := by decide +kernel
theorem dX11_inList_1 : decode cX11_inList 1 = .ok (.istore_n 3, 1) := by decide +kernel
theorem dX11_inList_2 : decode cX11_inList 2 = .ok (.iconst 0, 1) := by decide +kernel
theorem dX11_inList_3 : decode cX11_inList 3 = .ok (.istore 4, 2) := by decide +kernel
theorem dX11_inList_5 : decode cX11_inList 5 = .ok (.iload 4, 2) := by decide +kernel
theorem dX11_inList_7 : decode cX11_inList 7 = .ok (.aload_n 0, 1) := by decide +kernel
theorem dX11_inList_8 : decode cX11_inList 8 = .ok (.getfield 200, 3) := by decide +kernel
theorem dX11_inList_11 : decode cX11_inList 11 = .ok (.iload_n 1, 1) := by decide +kernel
theorem dX11_inList_12 : decode cX11_inList 12 = .ok (.iaload, 1) := by decide +kernel
theorem dX11_inList_13 : decode cX11_inList 13 = .ok (.if_icmp .ge 36, 3) := by decide +kernel
theorem dX11_inList_16 : decode cX11_inList 16 = .ok (.iload_n 3, 1) := by decide +kernel
theorem dX11_inList_17 : decode cX11_inList 17 = .ok (.aload_n 0, 1) := by decide +kernel
theorem dX11_inList_18 : decode cX11_inList 18 = .ok (.iload_n 2, 1) := by decide +kernel
theorem dX11_inList_19 : decode cX11_inList 19 = .ok (.aload_n 0, 1) := by decide +kernel
theorem dX11_inList_20 : decode cX11_inList 20 = .ok (.getfield 206, 3) := by decide +kernel
theorem dX11_inList_23 : decode cX11_inList 23 = .ok (.iconst 4, 1) := by decide +kernel
theorem dX11_inList_24 : decode cX11_inList 24 = .ok (.iload_n 1, 1) := by decide +kernel
theorem dX11_inList_25 : decode cX11_inList 25 = .ok (.imul, 1) := by decide +kernel
theorem dX11_inList_26 : decode cX11_inList 26 = .ok (.iload 4, 2) := by decide +kernel
theorem dX11_inList_28 : decode cX11_inList 28 = .ok (.iadd, 1) := by decide +kernel
theorem dX11_inList_29 : decode cX11_inList 29 = .ok (.laload, 1) := by decide +kernel
theorem dX11_inList_30 : decode cX11_inList 30 = .ok (.invokevirtual 318, 3) := by decide +kernel
theorem dX11_inList_33 : decode cX11_inList 33 = .ok (.ifCond .eq 7, 3) := by decide +kernel
theorem dX11_inList_36 : decode cX11_inList 36 = .ok (.iconst 1, 1) := by decide +kernel
theorem dX11_inList_37 : decode cX11_inList 37 = .ok (.goto 4, 3) := by decide +kernel
theorem dX11_inList_40 : decode cX11_inList 40 = .ok (.iconst 0, 1) := by decide +kernel
theorem dX11_inList_41 : decode cX11_inList 41 = .ok (.iadd, 1) := by decide +kernel
theorem dX11_inList_42 : decode cX11_inList 42 = .ok (.istore_n 3, 1) := by decide +kernel
theorem dX11_inList_43 : decode cX11_inList 43 = .ok (.iinc 4 1, 3) := by decide +kernel
theorem dX11_inList_46 : decode cX11_inList 46 = .ok (.goto (-41), 3) := by decide +kernel
theorem dX11_inList_49 : decode cX11_inList 49 = .ok (.iload_n 3, 1) := by decide +kernel
theorem dX11_inList_50 : decode cX11_inList 50 = .ok (.ireturn, 1) := by decide +kernel
theorem dX11_inNone_0 : decode cX11_inNone 0 = .ok (.iconst 0, 1) := by decide +kernel
theorem dX11_inNone_1 : decode cX11_inNone 1 = .ok (.istore_n 3, 1) := by decide +kernel
theorem dX11_inNone_2 : decode cX11_inNone 2 = .ok (.iconst 0, 1) := by decide +kernel
theorem dX11_inNone_3 : decode cX11_inNone 3 = .ok (.istore 4, 2) := by decide +kernel
theorem dX11_inNone_5 : decode cX11_inNone 5 = .ok (.iload 4, 2) := by decide +kernel
theorem dX11_inNone_7 : decode cX11_inNone 7 = .ok (.aload_n 0, 1) := by decide +kernel
theorem dX11_inNone_8 : decode cX11_inNone 8 = .ok (.getfield 200, 3) := by decide +kernel
theorem dX11_inNone_11 : decode cX11_inNone 11 = .ok (.iload_n 1, 1) := by decide +kernel
theorem dX11_inNone_12 : decode cX11_inNone 12 = .ok (.iaload, 1) := by decide +kernel
theorem dX11_inNone_13 : decode cX11_inNone 13 = .ok (.if_icmp .ge 82, 3) := by decide +kernel
theorem dX11_inNone_16 : decode cX11_inNone 16 = .ok (.iconst 0, 1) := by decide +kernel
theorem dX11_inNone_17 : decode cX11_inNone 17 = .ok (.istore 5, 2) := by decide +kernel
theorem dX11_inNone_19 : decode cX11_inNone 19 = .ok (.iconst 0, 1) := by decide +kernel
theorem dX11_inNone_20 : decode cX11_inNone 20 = .ok (.istore 6, 2) := by decide +kernel
theorem dX11_inNone_22 : decode cX11_inNone 22 = .ok (.iload 6, 2) := by decide +kernel
theorem dX11_inNone_24 : decode cX11_inNone 24 = .ok (.aload_n 0, 1) := by decide +kernel
theorem dX11_inNone_25 : decode cX11_inNone 25 = .ok (.getfield 121, 3) := by decide +kernel
theorem dX11_inNone_28 : decode cX11_inNone 28 = .ok (.iload_n 2, 1) := by decide +kernel
theorem dX11_inNone_29 : decode cX11_inNone 29 = .ok (.iaload, 1) := by decide +kernel
theorem dX11_inNone_30 : decode cX11_inNone 30 = .ok (.if_icmp .ge 46, 3) := by decide +kernel
theorem dX11_inNone_33 : decode cX11_inNone 33 = .ok (.iload 5, 2) := by decide +kernel
theorem dX11_inNone_35 : decode cX11_inNone 35 = .ok (.ifCond .ne 28, 3) := by decide +kernel
theorem dX11_inNone_38 : decode cX11_inNone 38 = .ok (.aload_n 0, 1) := by decide +kernel
theorem dX11_inNone_39 : decode cX11_inNone 39 = .ok (.bipush 6, 2) := by decide +kernel
theorem dX11_inNone_41 : decode cX11_inNone 41 = .ok (.iload_n 2, 1) := by decide +kernel
theorem dX11_inNone_42 : decode cX11_inNone 42 = .ok (.imul, 1) := by decide +kernel
theorem dX11_inNone_43 : decode cX11_inNone 43 = .ok (.iload 6, 2) := by decide +kernel
theorem dX11_inNone_45 : decode cX11_inNone 45 = .ok (.iadd, 1) := by decide +kernel
theorem dX11_inNone_46 : decode cX11_inNone 46 = .ok (.aload_n 0, 1) := by decide +kernel
theorem dX11_inNone_47 : decode cX11_inNone 47 = .ok (.getfield 206, 3) := by decide +kernel
theorem dX11_inNone_50 : decode cX11_inNone 50 = .ok (.iconst 4, 1) := by decide +kernel
theorem dX11_inNone_51 : decode cX11_inNone 51 = .ok (.iload_n 1, 1) := by decide +kernel
theorem dX11_inNone_52 : decode cX11_inNone 52 = .ok (.imul, 1) := by decide +kernel
theorem dX11_inNone_53 : decode cX11_inNone 53 = .ok (.iload 4, 2) := by decide +kernel
theorem dX11_inNone_55 : decode cX11_inNone 55 = .ok (.iadd, 1) := by decide +kernel
theorem dX11_inNone_56 : decode cX11_inNone 56 = .ok (.laload, 1) := by decide +kernel
theorem dX11_inNone_57 : decode cX11_inNone 57 = .ok (.invokevirtual 318, 3) := by decide +kernel
theorem dX11_inNone_60 : decode cX11_inNone 60 = .ok (.ifCond .eq 7, 3) := by decide +kernel
theorem dX11_inNone_63 : decode cX11_inNone 63 = .ok (.iconst 1, 1) := by decide +kernel
theorem dX11_inNone_64 : decode cX11_inNone 64 = .ok (.goto 4, 3) := by decide +kernel
theorem dX11_inNone_67 : decode cX11_inNone 67 = .ok (.iconst 0, 1) := by decide +kernel
theorem dX11_inNone_68 : decode cX11_inNone 68 = .ok (.istore 5, 2) := by decide +kernel
theorem dX11_inNone_70 : decode cX11_inNone 70 = .ok (.iinc 6 1, 3) := by decide +kernel
theorem dX11_inNone_73 : decode cX11_inNone 73 = .ok (.goto (-51), 3) := by decide +kernel
theorem dX11_inNone_76 : decode cX11_inNone 76 = .ok (.iload_n 3, 1) := by decide +kernel
theorem dX11_inNone_77 : decode cX11_inNone 77 = .ok (.iload 5, 2) := by decide +kernel
theorem dX11_inNone_79 : decode cX11_inNone 79 = .ok (.ifCond .eq 7, 3) := by decide +kernel
theorem dX11_inNone_82 : decode cX11_inNone 82 = .ok (.iconst 0, 1) := by decide +kernel
theorem dX11_inNone_83 : decode cX11_inNone 83 = .ok (.goto 4, 3) := by decide +kernel
theorem dX11_inNone_86 : decode cX11_inNone 86 = .ok (.iconst 1, 1) := by decide +kernel
theorem dX11_inNone_87 : decode cX11_inNone 87 = .ok (.iadd, 1) := by decide +kernel
theorem dX11_inNone_88 : decode cX11_inNone 88 = .ok (.istore_n 3, 1) := by decide +kernel
theorem dX11_inNone_89 : decode cX11_inNone 89 = .ok (.iinc 4 1, 3) := by decide +kernel
theorem dX11_inNone_92 : decode cX11_inNone 92 = .ok (.goto (-87), 3) := by decide +kernel
theorem dX11_inNone_95 : decode cX11_inNone 95 = .ok (.iload_n 3, 1) := by decide +kernel
theorem dX11_inNone_96 : decode cX11_inNone 96 = .ok (.ireturn, 1) := by decide +kernel
theorem dX11_work_0 : decode cX11_work 0 = .ok (.iconst 0, 1) := by decide +kernel
theorem dX11_work_1 : decode cX11_work 1 = .ok (.istore 5, 2) := by decide +kernel
theorem dX11_work_3 : decode cX11_work 3 = .ok (.sipush 1500, 3) := by decide +kernel
theorem dX11_work_6 : decode cX11_work 6 = .ok (.iload_n 3, 1) := by decide +kernel
theorem dX11_work_7 : decode cX11_work 7 = .ok (.bipush 8, 2) := by decide +kernel
theorem dX11_work_9 : decode cX11_work 9 = .ok (.idiv, 1) := by decide +kernel
theorem dX11_work_10 : decode cX11_work 10 = .ok (.imul, 1) := by decide +kernel
theorem dX11_work_11 : decode cX11_work 11 = .ok (.istore 6, 2) := by decide +kernel
theorem dX11_work_13 : decode cX11_work 13 = .ok (.iload 6, 2) := by decide +kernel
theorem dX11_work_15 : decode cX11_work 15 = .ok (.iload_n 1, 1) := by decide +kernel
theorem dX11_work_16 : decode cX11_work 16 = .ok (.iadd, 1) := by decide +kernel
theorem dX11_work_17 : decode cX11_work 17 = .ok (.istore 7, 2) := by decide +kernel
theorem dX11_work_19 : decode cX11_work 19 = .ok (.iload 7, 2) := by decide +kernel
theorem dX11_work_21 : decode cX11_work 21 = .ok (.iload 6, 2) := by decide +kernel
theorem dX11_work_23 : decode cX11_work 23 = .ok (.iload_n 2, 1) := by decide +kernel
theorem dX11_work_24 : decode cX11_work 24 = .ok (.iadd, 1) := by decide +kernel
theorem dX11_work_25 : decode cX11_work 25 = .ok (.if_icmp .ge 130, 3) := by decide +kernel
theorem dX11_work_28 : decode cX11_work 28 = .ok (.aload_n 0, 1) := by decide +kernel
theorem dX11_work_29 : decode cX11_work 29 = .ok (.getfield 157, 3) := by decide +kernel
theorem dX11_work_32 : decode cX11_work 32 = .ok (.iload 7, 2) := by decide +kernel
theorem dX11_work_34 : decode cX11_work 34 = .ok (.iaload, 1) := by decide +kernel
theorem dX11_work_35 : decode cX11_work 35 = .ok (.istore 8, 2) := by decide +kernel
theorem dX11_work_37 : decode cX11_work 37 = .ok (.iload 8, 2) := by decide +kernel
theorem dX11_work_39 : decode cX11_work 39 = .ok (.bipush 126, 2) := by decide +kernel
theorem dX11_work_41 : decode cX11_work 41 = .ok (.if_icmp .ne 32, 3) := by decide +kernel
theorem dX11_work_44 : decode cX11_work 44 = .ok (.aload_n 0, 1) := by decide +kernel
theorem dX11_work_45 : decode cX11_work 45 = .ok (.getfield 209, 3) := by decide +kernel
theorem dX11_work_48 : decode cX11_work 48 = .ok (.iload 5, 2) := by decide +kernel
theorem dX11_work_50 : decode cX11_work 50 = .ok (.iconst 1, 1) := by decide +kernel
theorem dX11_work_51 : decode cX11_work 51 = .ok (.isub, 1) := by decide +kernel
theorem dX11_work_52 : decode cX11_work 52 = .ok (.aload_n 0, 1) := by decide +kernel
theorem dX11_work_53 : decode cX11_work 53 = .ok (.getfield 209, 3) := by decide +kernel
theorem dX11_work_56 : decode cX11_work 56 = .ok (.iload 5, 2) := by decide +kernel
theorem dX11_work_58 : decode cX11_work 58 = .ok (.iconst 1, 1) := by decide +kernel
theorem dX11_work_59 : decode cX11_work 59 = .ok (.isub, 1) := by decide +kernel
theorem dX11_work_60 : decode cX11_work 60 = .ok (.iaload, 1) := by decide +kernel
theorem dX11_work_61 : decode cX11_work 61 = .ok (.ifCond .ne 7, 3) := by decide +kernel
theorem dX11_work_64 : decode cX11_work 64 = .ok (.iconst 1, 1) := by decide +kernel
theorem dX11_work_65 : decode cX11_work 65 = .ok (.goto 4, 3) := by decide +kernel
theorem dX11_work_68 : decode cX11_work 68 = .ok (.iconst 0, 1) := by decide +kernel
theorem dX11_work_69 : decode cX11_work 69 = .ok (.iastore, 1) := by decide +kernel
theorem dX11_work_70 : decode cX11_work 70 = .ok (.goto 79, 3) := by decide +kernel
theorem dX11_work_73 : decode cX11_work 73 = .ok (.iload 8, 2) := by decide +kernel
theorem dX11_work_75 : decode cX11_work 75 = .ok (.bipush 97, 2) := by decide +kernel
theorem dX11_work_77 : decode cX11_work 77 = .ok (.if_icmp .lt 39, 3) := by decide +kernel
theorem dX11_work_80 : decode cX11_work 80 = .ok (.iload 8, 2) := by decide +kernel
theorem dX11_work_82 : decode cX11_work 82 = .ok (.bipush 122, 2) := by decide +kernel
theorem dX11_work_84 : decode cX11_work 84 = .ok (.if_icmp .gt 32, 3) := by decide +kernel
theorem dX11_work_87 : decode cX11_work 87 = .ok (.aload_n 0, 1) := by decide +kernel
theorem dX11_work_88 : decode cX11_work 88 = .ok (.getfield 209, 3) := by decide +kernel
theorem dX11_work_91 : decode cX11_work 91 = .ok (.iload 5, 2) := by decide +kernel
theorem dX11_work_93 : decode cX11_work 93 = .ok (.aload_n 0, 1) := by decide +kernel
theorem dX11_work_94 : decode cX11_work 94 = .ok (.iload 8, 2) := by decide +kernel
theorem dX11_work_96 : decode cX11_work 96 = .ok (.aload_n 0, 1) := by decide +kernel
theorem dX11_work_97 : decode cX11_work 97 = .ok (.getfield 160, 3) := by decide +kernel
theorem dX11_work_100 : decode cX11_work 100 = .ok (.iload 7, 2) := by decide +kernel
theorem dX11_work_102 : decode cX11_work 102 = .ok (.iaload, 1) := by decide +kernel
theorem dX11_work_103 : decode cX11_work 103 = .ok (.iload_n 3, 1) := by decide +kernel
theorem dX11_work_104 : decode cX11_work 104 = .ok (.iload 4, 2) := by decide +kernel
theorem dX11_work_106 : decode cX11_work 106 = .ok (.invokevirtual 368, 3) := by decide +kernel
theorem dX11_work_109 : decode cX11_work 109 = .ok (.iastore, 1) := by decide +kernel
theorem dX11_work_110 : decode cX11_work 110 = .ok (.iinc 5 1, 3) := by decide +kernel
theorem dX11_work_113 : decode cX11_work 113 = .ok (.goto 36, 3) := by decide +kernel
theorem dX11_work_116 : decode cX11_work 116 = .ok (.iinc 5 (-1), 3) := by decide +kernel
theorem dX11_work_119 : decode cX11_work 119 = .ok (.aload_n 0, 1) := by decide +kernel
theorem dX11_work_120 : decode cX11_work 120 = .ok (.getfield 209, 3) := by decide +kernel
theorem dX11_work_123 : decode cX11_work 123 = .ok (.iload 5, 2) := by decide +kernel
theorem dX11_work_125 : decode cX11_work 125 = .ok (.iconst 1, 1) := by decide +kernel
theorem dX11_work_126 : decode cX11_work 126 = .ok (.isub, 1) := by decide +kernel
theorem dX11_work_127 : decode cX11_work 127 = .ok (.iload 8, 2) := by decide +kernel
theorem dX11_work_129 : decode cX11_work 129 = .ok (.aload_n 0, 1) := by decide +kernel
theorem dX11_work_130 : decode cX11_work 130 = .ok (.getfield 209, 3) := by decide +kernel
theorem dX11_work_133 : decode cX11_work 133 = .ok (.iload 5, 2) := by decide +kernel
theorem dX11_work_135 : decode cX11_work 135 = .ok (.iconst 1, 1) := by decide +kernel
theorem dX11_work_136 : decode cX11_work 136 = .ok (.isub, 1) := by decide +kernel
theorem dX11_work_137 : decode cX11_work 137 = .ok (.iaload, 1) := by decide +kernel
theorem dX11_work_138 : decode cX11_work 138 = .ok (.aload_n 0, 1) := by decide +kernel
theorem dX11_work_139 : decode cX11_work 139 = .ok (.getfield 209, 3) := by decide +kernel
theorem dX11_work_142 : decode cX11_work 142 = .ok (.iload 5, 2) := by decide +kernel
theorem dX11_work_144 : decode cX11_work 144 = .ok (.iaload, 1) := by decide +kernel
theorem dX11_work_145 : decode cX11_work 145 = .ok (.invokestatic 372, 3) := by decide +kernel
theorem dX11_work_148 : decode cX11_work 148 = .ok (.iastore, 1) := by decide +kernel
theorem dX11_work_149 : decode cX11_work 149 = .ok (.iinc 7 1, 3) := by decide +kernel
theorem dX11_work_152 : decode cX11_work 152 = .ok (.goto (-133), 3) := by decide +kernel
theorem dX11_work_155 : decode cX11_work 155 = .ok (.aload_n 0, 1) := by decide +kernel
theorem dX11_work_156 : decode cX11_work 156 = .ok (.getfield 209, 3) := by decide +kernel
theorem dX11_work_159 : decode cX11_work 159 = .ok (.iconst 0, 1) := by decide +kernel
theorem dX11_work_160 : decode cX11_work 160 = .ok (.iaload, 1) := by decide +kernel
theorem dX11_work_161 : decode cX11_work 161 = .ok (.ireturn, 1) := by decide +kernel
theorem dX11_leaf_0 : decode cX11_leaf 0 = .ok (.iload_n 1, 1) := by decide +kernel
theorem dX11_leaf_1 : decode cX11_leaf 1 = .ok (.tableswitch 147 97 116 #[126, 147, 118, 147, 147, 147, 147, 147, 147, 147, 147, 97, 147, 95, 110, 134, 147, 147, 147, 141], 95) := by decide +kernel
theorem dX11_leaf_96 : decode cX11_leaf 96 = .ok (.iload_n 2, 1) := by decide +kernel
theorem dX11_leaf_97 : decode cX11_leaf 97 = .ok (.ireturn, 1) := by decide +kernel
theorem dX11_leaf_98 : decode cX11_leaf 98 = .ok (.aload_n 0, 1) := by decide +kernel
theorem dX11_leaf_99 : decode cX11_leaf 99 = .ok (.iload 4, 2) := by decide +kernel
theorem dX11_leaf_101 : decode cX11_leaf 101 = .ok (.bipush 6, 2) := by decide +kernel
theorem dX11_leaf_103 : decode cX11_leaf 103 = .ok (.iload_n 3, 1) := by decide +kernel
theorem dX11_leaf_104 : decode cX11_leaf 104 = .ok (.imul, 1) := by decide +kernel
theorem dX11_leaf_105 : decode cX11_leaf 105 = .ok (.iload_n 2, 1) := by decide +kernel
theorem dX11_leaf_106 : decode cX11_leaf 106 = .ok (.iadd, 1) := by decide +kernel
theorem dX11_leaf_107 : decode cX11_leaf 107 = .ok (.invokevirtual 376, 3) := by decide +kernel
theorem dX11_leaf_110 : decode cX11_leaf 110 = .ok (.ireturn, 1) := by decide +kernel
theorem dX11_leaf_111 : decode cX11_leaf 111 = .ok (.aload_n 0, 1) := by decide +kernel
theorem dX11_leaf_112 : decode cX11_leaf 112 = .ok (.iload 4, 2) := by decide +kernel
theorem dX11_leaf_114 : decode cX11_leaf 114 = .ok (.iload_n 3, 1) := by decide +kernel
theorem dX11_leaf_115 : decode cX11_leaf 115 = .ok (.invokevirtual 379, 3) := by decide +kernel
theorem dX11_leaf_118 : decode cX11_leaf 118 = .ok (.ireturn, 1) := by decide +kernel
theorem dX11_leaf_119 : decode cX11_leaf 119 = .ok (.aload_n 0, 1) := by decide +kernel
theorem dX11_leaf_120 : decode cX11_leaf 120 = .ok (.getfield 200, 3) := by decide +kernel
theorem dX11_leaf_123 : decode cX11_leaf 123 = .ok (.iload 4, 2) := by decide +kernel
theorem dX11_leaf_125 : decode cX11_leaf 125 = .ok (.iaload, 1) := by decide +kernel
theorem dX11_leaf_126 : decode cX11_leaf 126 = .ok (.ireturn, 1) := by decide +kernel
theorem dX11_leaf_127 : decode cX11_leaf 127 = .ok (.aload_n 0, 1) := by decide +kernel
theorem dX11_leaf_128 : decode cX11_leaf 128 = .ok (.getfield 194, 3) := by decide +kernel
theorem dX11_leaf_131 : decode cX11_leaf 131 = .ok (.iload 4, 2) := by decide +kernel
theorem dX11_leaf_133 : decode cX11_leaf 133 = .ok (.iaload, 1) := by decide +kernel
theorem dX11_leaf_134 : decode cX11_leaf 134 = .ok (.ireturn, 1) := by decide +kernel
theorem dX11_leaf_135 : decode cX11_leaf 135 = .ok (.aload_n 0, 1) := by decide +kernel
theorem dX11_leaf_136 : decode cX11_leaf 136 = .ok (.getfield 212, 3) := by decide +kernel
theorem dX11_leaf_139 : decode cX11_leaf 139 = .ok (.iload_n 2, 1) := by decide +kernel
theorem dX11_leaf_140 : decode cX11_leaf 140 = .ok (.iaload, 1) := by decide +kernel
theorem dX11_leaf_141 : decode cX11_leaf 141 = .ok (.ireturn, 1) := by decide +kernel
theorem dX11_leaf_142 : decode cX11_leaf 142 = .ok (.aload_n 0, 1) := by decide +kernel
theorem dX11_leaf_143 : decode cX11_leaf 143 = .ok (.iload_n 3, 1) := by decide +kernel
theorem dX11_leaf_144 : decode cX11_leaf 144 = .ok (.invokevirtual 382, 3) := by decide +kernel
theorem dX11_leaf_147 : decode cX11_leaf 147 = .ok (.ireturn, 1) := by decide +kernel
theorem dX11_leaf_148 : decode cX11_leaf 148 = .ok (.aload_n 0, 1) := by decide +kernel
theorem dX11_leaf_149 : decode cX11_leaf 149 = .ok (.iload_n 3, 1) := by decide +kernel
theorem dX11_leaf_150 : decode cX11_leaf 150 = .ok (.invokevirtual 385, 3) := by decide +kernel
theorem dX11_leaf_153 : decode cX11_leaf 153 = .ok (.ireturn, 1) := by decide +kernel
theorem dX11_total_0 : decode cX11_total 0 = .ok (.iconst 0, 1) := by decide +kernel
theorem dX11_total_1 : decode cX11_total 1 = .ok (.istore_n 2, 1) := by decide +kernel
theorem dX11_total_2 : decode cX11_total 2 = .ok (.iconst 0, 1) := by decide +kernel
theorem dX11_total_3 : decode cX11_total 3 = .ok (.istore_n 3, 1) := by decide +kernel
theorem dX11_total_4 : decode cX11_total 4 = .ok (.iload_n 3, 1) := by decide +kernel
theorem dX11_total_5 : decode cX11_total 5 = .ok (.aload_n 0, 1) := by decide +kernel
theorem dX11_total_6 : decode cX11_total 6 = .ok (.getfield 127, 3) := by decide +kernel
theorem dX11_total_9 : decode cX11_total 9 = .ok (.iload_n 1, 1) := by decide +kernel
theorem dX11_total_10 : decode cX11_total 10 = .ok (.iaload, 1) := by decide +kernel
theorem dX11_total_11 : decode cX11_total 11 = .ok (.if_icmp .ge 18, 3) := by decide +kernel
theorem dX11_total_14 : decode cX11_total 14 = .ok (.iload_n 2, 1) := by decide +kernel
theorem dX11_total_15 : decode cX11_total 15 = .ok (.aload_n 0, 1) := by decide +kernel
theorem dX11_total_16 : decode cX11_total 16 = .ok (.getfield 212, 3) := by decide +kernel
theorem dX11_total_19 : decode cX11_total 19 = .ok (.iload_n 3, 1) := by decide +kernel
theorem dX11_total_20 : decode cX11_total 20 = .ok (.iaload, 1) := by decide +kernel
theorem dX11_total_21 : decode cX11_total 21 = .ok (.iadd, 1) := by decide +kernel
theorem dX11_total_22 : decode cX11_total 22 = .ok (.istore_n 2, 1) := by decide +kernel
theorem dX11_total_23 : decode cX11_total 23 = .ok (.iinc 3 1, 3) := by decide +kernel
theorem dX11_total_26 : decode cX11_total 26 = .ok (.goto (-22), 3) := by decide +kernel
theorem dX11_total_29 : decode cX11_total 29 = .ok (.iload_n 2, 1) := by decide +kernel
theorem dX11_total_30 : decode cX11_total 30 = .ok (.ireturn, 1) := by decide +kernel
theorem dX11_leastMark_0 : decode cX11_leastMark 0 = .ok (.aload_n 0, 1) := by decide +kernel
theorem dX11_leastMark_1 : decode cX11_leastMark 1 = .ok (.getfield 127, 3) := by decide +kernel
theorem dX11_leastMark_4 : decode cX11_leastMark 4 = .ok (.iload_n 1, 1) := by decide +kernel
theorem dX11_leastMark_5 : decode cX11_leastMark 5 = .ok (.iaload, 1) := by decide +kernel
theorem dX11_leastMark_6 : decode cX11_leastMark 6 = .ok (.ifCond .ne 7, 3) := by decide +kernel
theorem dX11_leastMark_9 : decode cX11_leastMark 9 = .ok (.iconst 0, 1) := by decide +kernel
theorem dX11_leastMark_10 : decode cX11_leastMark 10 = .ok (.goto 9, 3) := by decide +kernel
theorem dX11_leastMark_13 : decode cX11_leastMark 13 = .ok (.aload_n 0, 1) := by decide +kernel
theorem dX11_leastMark_14 : decode cX11_leastMark 14 = .ok (.getfield 212, 3) := by decide +kernel
theorem dX11_leastMark_17 : decode cX11_leastMark 17 = .ok (.iconst 0, 1) := by decide +kernel
theorem dX11_leastMark_18 : decode cX11_leastMark 18 = .ok (.iaload, 1) := by decide +kernel
theorem dX11_leastMark_19 : decode cX11_leastMark 19 = .ok (.istore_n 2, 1) := by decide +kernel
theorem dX11_leastMark_20 : decode cX11_leastMark 20 = .ok (.iconst 1, 1) := by decide +kernel
theorem dX11_leastMark_21 : decode cX11_leastMark 21 = .ok (.istore_n 3, 1) := by decide +kernel
theorem dX11_leastMark_22 : decode cX11_leastMark 22 = .ok (.iload_n 3, 1) := by decide +kernel
theorem dX11_leastMark_23 : decode cX11_leastMark 23 = .ok (.aload_n 0, 1) := by decide +kernel
theorem dX11_leastMark_24 : decode cX11_leastMark 24 = .ok (.getfield 127, 3) := by decide +kernel
theorem dX11_leastMark_27 : decode cX11_leastMark 27 = .ok (.iload_n 1, 1) := by decide +kernel
theorem dX11_leastMark_28 : decode cX11_leastMark 28 = .ok (.iaload, 1) := by decide +kernel
theorem dX11_leastMark_29 : decode cX11_leastMark 29 = .ok (.if_icmp .ge 30, 3) := by decide +kernel
theorem dX11_leastMark_32 : decode cX11_leastMark 32 = .ok (.aload_n 0, 1) := by decide +kernel
theorem dX11_leastMark_33 : decode cX11_leastMark 33 = .ok (.getfield 212, 3) := by decide +kernel
theorem dX11_leastMark_36 : decode cX11_leastMark 36 = .ok (.iload_n 3, 1) := by decide +kernel
theorem dX11_leastMark_37 : decode cX11_leastMark 37 = .ok (.iaload, 1) := by decide +kernel
theorem dX11_leastMark_38 : decode cX11_leastMark 38 = .ok (.iload_n 2, 1) := by decide +kernel
theorem dX11_leastMark_39 : decode cX11_leastMark 39 = .ok (.if_icmp .ge 12, 3) := by decide +kernel
theorem dX11_leastMark_42 : decode cX11_leastMark 42 = .ok (.aload_n 0, 1) := by decide +kernel
theorem dX11_leastMark_43 : decode cX11_leastMark 43 = .ok (.getfield 212, 3) := by decide +kernel
theorem dX11_leastMark_46 : decode cX11_leastMark 46 = .ok (.iload_n 3, 1) := by decide +kernel
theorem dX11_leastMark_47 : decode cX11_leastMark 47 = .ok (.iaload, 1) := by decide +kernel
theorem dX11_leastMark_48 : decode cX11_leastMark 48 = .ok (.goto 4, 3) := by decide +kernel
theorem dX11_leastMark_51 : decode cX11_leastMark 51 = .ok (.iload_n 2, 1) := by decide +kernel
theorem dX11_leastMark_52 : decode cX11_leastMark 52 = .ok (.istore_n 2, 1) := by decide +kernel
theorem dX11_leastMark_53 : decode cX11_leastMark 53 = .ok (.iinc 3 1, 3) := by decide +kernel
theorem dX11_leastMark_56 : decode cX11_leastMark 56 = .ok (.goto (-34), 3) := by decide +kernel
theorem dX11_leastMark_59 : decode cX11_leastMark 59 = .ok (.iload_n 2, 1) := by decide +kernel
theorem dX11_leastMark_60 : decode cX11_leastMark 60 = .ok (.ireturn, 1) := by decide +kernel
theorem dX11_two_0 : decode cX11_two 0 = .ok (.iload_n 0, 1) := by decide +kernel
theorem dX11_two_1 : decode cX11_two 1 = .ok (.lookupswitch 114 #[(38, 100), (43, 59), (45, 63), (60, 67), (61, 89), (62, 78)], 59) := by decide +kernel
theorem dX11_two_60 : decode cX11_two 60 = .ok (.iload_n 1, 1) := by decide +kernel
theorem dX11_two_61 : decode cX11_two 61 = .ok (.iload_n 2, 1) := by decide +kernel
theorem dX11_two_62 : decode cX11_two 62 = .ok (.iadd, 1) := by decide +kernel
theorem dX11_two_63 : decode cX11_two 63 = .ok (.ireturn, 1) := by decide +kernel
theorem dX11_two_64 : decode cX11_two 64 = .ok (.iload_n 1, 1) := by decide +kernel
theorem dX11_two_65 : decode cX11_two 65 = .ok (.iload_n 2, 1) := by decide +kernel
theorem dX11_two_66 : decode cX11_two 66 = .ok (.isub, 1) := by decide +kernel
theorem dX11_two_67 : decode cX11_two 67 = .ok (.ireturn, 1) := by decide +kernel
theorem dX11_two_68 : decode cX11_two 68 = .ok (.iload_n 1, 1) := by decide +kernel
theorem dX11_two_69 : decode cX11_two 69 = .ok (.iload_n 2, 1) := by decide +kernel
theorem dX11_two_70 : decode cX11_two 70 = .ok (.if_icmp .ge 7, 3) := by decide +kernel
theorem dX11_two_73 : decode cX11_two 73 = .ok (.iconst 1, 1) := by decide +kernel
theorem dX11_two_74 : decode cX11_two 74 = .ok (.goto 4, 3) := by decide +kernel
theorem dX11_two_77 : decode cX11_two 77 = .ok (.iconst 0, 1) := by decide +kernel
theorem dX11_two_78 : decode cX11_two 78 = .ok (.ireturn, 1) := by decide +kernel
theorem dX11_two_79 : decode cX11_two 79 = .ok (.iload_n 1, 1) := by decide +kernel
theorem dX11_two_80 : decode cX11_two 80 = .ok (.iload_n 2, 1) := by decide +kernel
theorem dX11_two_81 : decode cX11_two 81 = .ok (.if_icmp .le 7, 3) := by decide +kernel
theorem dX11_two_84 : decode cX11_two 84 = .ok (.iconst 1, 1) := by decide +kernel
theorem dX11_two_85 : decode cX11_two 85 = .ok (.goto 4, 3) := by decide +kernel
theorem dX11_two_88 : decode cX11_two 88 = .ok (.iconst 0, 1) := by decide +kernel
theorem dX11_two_89 : decode cX11_two 89 = .ok (.ireturn, 1) := by decide +kernel
theorem dX11_two_90 : decode cX11_two 90 = .ok (.iload_n 1, 1) := by decide +kernel
theorem dX11_two_91 : decode cX11_two 91 = .ok (.iload_n 2, 1) := by decide +kernel
theorem dX11_two_92 : decode cX11_two 92 = .ok (.if_icmp .ne 7, 3) := by decide +kernel
theorem dX11_two_95 : decode cX11_two 95 = .ok (.iconst 1, 1) := by decide +kernel
theorem dX11_two_96 : decode cX11_two 96 = .ok (.goto 4, 3) := by decide +kernel
theorem dX11_two_99 : decode cX11_two 99 = .ok (.iconst 0, 1) := by decide +kernel
theorem dX11_two_100 : decode cX11_two 100 = .ok (.ireturn, 1) := by decide +kernel
theorem dX11_two_101 : decode cX11_two 101 = .ok (.iload_n 1, 1) := by decide +kernel
theorem dX11_two_102 : decode cX11_two 102 = .ok (.ifCond .eq 11, 3) := by decide +kernel
theorem dX11_two_105 : decode cX11_two 105 = .ok (.iload_n 2, 1) := by decide +kernel
theorem dX11_two_106 : decode cX11_two 106 = .ok (.ifCond .eq 7, 3) := by decide +kernel
theorem dX11_two_109 : decode cX11_two 109 = .ok (.iconst 1, 1) := by decide +kernel
theorem dX11_two_110 : decode cX11_two 110 = .ok (.goto 4, 3) := by decide +kernel
theorem dX11_two_113 : decode cX11_two 113 = .ok (.iconst 0, 1) := by decide +kernel
theorem dX11_two_114 : decode cX11_two 114 = .ok (.ireturn, 1) := by decide +kernel
theorem dX11_two_115 : decode cX11_two 115 = .ok (.iload_n 1, 1) := by decide +kernel
theorem dX11_two_116 : decode cX11_two 116 = .ok (.ifCond .ne 7, 3) := by decide +kernel
theorem dX11_two_119 : decode cX11_two 119 = .ok (.iload_n 2, 1) := by decide +kernel
theorem dX11_two_120 : decode cX11_two 120 = .ok (.ifCond .eq 7, 3) := by decide +kernel
theorem dX11_two_123 : decode cX11_two 123 = .ok (.iconst 1, 1) := by decide +kernel
theorem dX11_two_124 : decode cX11_two 124 = .ok (.goto 4, 3) := by decide +kernel
theorem dX11_two_127 : decode cX11_two 127 = .ok (.iconst 0, 1) := by decide +kernel
theorem dX11_two_128 : decode cX11_two 128 = .ok (.ireturn, 1) := by decide +kernel
theorem dX11_judge_0 : decode cX11_judge 0 = .ok (.aload_n 0, 1) := by decide +kernel
theorem dX11_judge_1 : decode cX11_judge 1 = .ok (.iload_n 1, 1) := by decide +kernel
theorem dX11_judge_2 : decode cX11_judge 2 = .ok (.invokevirtual 362, 3) := by decide +kernel
theorem dX11_judge_5 : decode cX11_judge 5 = .ok (.ifCond .ne 6, 3) := by decide +kernel
theorem dX11_judge_8 : decode cX11_judge 8 = .ok (.bipush (-3), 2) := by decide +kernel
theorem dX11_judge_10 : decode cX11_judge 10 = .ok (.ireturn, 1) := by decide +kernel
theorem dX11_judge_11 : decode cX11_judge 11 = .ok (.aload_n 0, 1) := by decide +kernel
theorem dX11_judge_12 : decode cX11_judge 12 = .ok (.iload_n 1, 1) := by decide +kernel
theorem dX11_judge_13 : decode cX11_judge 13 = .ok (.invokevirtual 388, 3) := by decide +kernel
theorem dX11_judge_16 : decode cX11_judge 16 = .ok (.istore_n 2, 1) := by decide +kernel
theorem dX11_judge_17 : decode cX11_judge 17 = .ok (.iload_n 2, 1) := by decide +kernel
theorem dX11_judge_18 : decode cX11_judge 18 = .ok (.ifCond .ge 6, 3) := by decide +kernel
theorem dX11_judge_21 : decode cX11_judge 21 = .ok (.bipush (-2), 2) := by decide +kernel
theorem dX11_judge_23 : decode cX11_judge 23 = .ok (.ireturn, 1) := by decide +kernel
theorem dX11_judge_24 : decode cX11_judge 24 = .ok (.iconst 0, 1) := by decide +kernel
theorem dX11_judge_25 : decode cX11_judge 25 = .ok (.istore_n 3, 1) := by decide +kernel
theorem dX11_judge_26 : decode cX11_judge 26 = .ok (.iload_n 3, 1) := by decide +kernel
theorem dX11_judge_27 : decode cX11_judge 27 = .ok (.aload_n 0, 1) := by decide +kernel
theorem dX11_judge_28 : decode cX11_judge 28 = .ok (.getfield 133, 3) := by decide +kernel
theorem dX11_judge_31 : decode cX11_judge 31 = .ok (.iload_n 2, 1) := by decide +kernel
theorem dX11_judge_32 : decode cX11_judge 32 = .ok (.iaload, 1) := by decide +kernel
theorem dX11_judge_33 : decode cX11_judge 33 = .ok (.if_icmp .ge 42, 3) := by decide +kernel
theorem dX11_judge_36 : decode cX11_judge 36 = .ok (.aload_n 0, 1) := by decide +kernel
theorem dX11_judge_37 : decode cX11_judge 37 = .ok (.aload_n 0, 1) := by decide +kernel
theorem dX11_judge_38 : decode cX11_judge 38 = .ok (.getfield 139, 3) := by decide +kernel
theorem dX11_judge_41 : decode cX11_judge 41 = .ok (.bipush 8, 2) := by decide +kernel
theorem dX11_judge_43 : decode cX11_judge 43 = .ok (.iload_n 2, 1) := by decide +kernel
theorem dX11_judge_44 : decode cX11_judge 44 = .ok (.imul, 1) := by decide +kernel
theorem dX11_judge_45 : decode cX11_judge 45 = .ok (.iload_n 3, 1) := by decide +kernel
theorem dX11_judge_46 : decode cX11_judge 46 = .ok (.iadd, 1) := by decide +kernel
theorem dX11_judge_47 : decode cX11_judge 47 = .ok (.iaload, 1) := by decide +kernel
theorem dX11_judge_48 : decode cX11_judge 48 = .ok (.aload_n 0, 1) := by decide +kernel
theorem dX11_judge_49 : decode cX11_judge 49 = .ok (.getfield 142, 3) := by decide +kernel
theorem dX11_judge_52 : decode cX11_judge 52 = .ok (.bipush 8, 2) := by decide +kernel
theorem dX11_judge_54 : decode cX11_judge 54 = .ok (.iload_n 2, 1) := by decide +kernel
theorem dX11_judge_55 : decode cX11_judge 55 = .ok (.imul, 1) := by decide +kernel
theorem dX11_judge_56 : decode cX11_judge 56 = .ok (.iload_n 3, 1) := by decide +kernel
theorem dX11_judge_57 : decode cX11_judge 57 = .ok (.iadd, 1) := by decide +kernel
theorem dX11_judge_58 : decode cX11_judge 58 = .ok (.iaload, 1) := by decide +kernel
theorem dX11_judge_59 : decode cX11_judge 59 = .ok (.iload_n 2, 1) := by decide +kernel
theorem dX11_judge_60 : decode cX11_judge 60 = .ok (.iload_n 1, 1) := by decide +kernel
theorem dX11_judge_61 : decode cX11_judge 61 = .ok (.invokevirtual 391, 3) := by decide +kernel
theorem dX11_judge_64 : decode cX11_judge 64 = .ok (.ifCond .ne 5, 3) := by decide +kernel
theorem dX11_judge_67 : decode cX11_judge 67 = .ok (.iload_n 3, 1) := by decide +kernel
theorem dX11_judge_68 : decode cX11_judge 68 = .ok (.ireturn, 1) := by decide +kernel
theorem dX11_judge_69 : decode cX11_judge 69 = .ok (.iinc 3 1, 3) := by decide +kernel
theorem dX11_judge_72 : decode cX11_judge 72 = .ok (.goto (-46), 3) := by decide +kernel
theorem dX11_judge_75 : decode cX11_judge 75 = .ok (.iconst (-1), 1) := by decide +kernel
theorem dX11_judge_76 : decode cX11_judge 76 = .ok (.ireturn, 1) := by decide +kernel
theorem dX11_centre_0 : decode cX11_centre 0 = .ok (.aload_n 0, 1) := by decide +kernel
theorem dX11_centre_1 : decode cX11_centre 1 = .ok (.getfield 394, 3) := by decide +kernel
theorem dX11_centre_4 : decode cX11_centre 4 = .ok (.bipush 8, 2) := by decide +kernel
theorem dX11_centre_6 : decode cX11_centre 6 = .ok (.if_icmp .ne 5, 3) := by decide +kernel
theorem dX11_centre_9 : decode cX11_centre 9 = .ok (.iconst (-1), 1) := by decide +kernel
theorem dX11_centre_10 : decode cX11_centre 10 = .ok (.ireturn, 1) := by decide +kernel
theorem dX11_centre_11 : decode cX11_centre 11 = .ok (.aload_n 0, 1) := by decide +kernel
theorem dX11_centre_12 : decode cX11_centre 12 = .ok (.dup, 1) := by decide +kernel
theorem dX11_centre_13 : decode cX11_centre 13 = .ok (.getfield 394, 3) := by decide +kernel
theorem dX11_centre_16 : decode cX11_centre 16 = .ok (.iconst 1, 1) := by decide +kernel
theorem dX11_centre_17 : decode cX11_centre 17 = .ok (.iadd, 1) := by decide +kernel
theorem dX11_centre_18 : decode cX11_centre 18 = .ok (.putfield 394, 3) := by decide +kernel
theorem dX11_centre_21 : decode cX11_centre 21 = .ok (.aload_n 0, 1) := by decide +kernel
theorem dX11_centre_22 : decode cX11_centre 22 = .ok (.getfield 394, 3) := by decide +kernel
theorem dX11_centre_25 : decode cX11_centre 25 = .ok (.iconst 1, 1) := by decide +kernel
theorem dX11_centre_26 : decode cX11_centre 26 = .ok (.isub, 1) := by decide +kernel
theorem dX11_centre_27 : decode cX11_centre 27 = .ok (.ireturn, 1) := by decide +kernel
theorem dX11_isCentre_0 : decode cX11_isCentre 0 = .ok (.iload_n 1, 1) := by decide +kernel
theorem dX11_isCentre_1 : decode cX11_isCentre 1 = .ok (.ifCond .lt 15, 3) := by decide +kernel
theorem dX11_isCentre_4 : decode cX11_isCentre 4 = .ok (.iload_n 1, 1) := by decide +kernel
theorem dX11_isCentre_5 : decode cX11_isCentre 5 = .ok (.aload_n 0, 1) := by decide +kernel
theorem dX11_isCentre_6 : decode cX11_isCentre 6 = .ok (.getfield 394, 3) := by decide +kernel
theorem dX11_isCentre_9 : decode cX11_isCentre 9 = .ok (.if_icmp .ge 7, 3) := by decide +kernel
theorem dX11_isCentre_12 : decode cX11_isCentre 12 = .ok (.iconst 1, 1) := by decide +kernel
theorem dX11_isCentre_13 : decode cX11_isCentre 13 = .ok (.goto 4, 3) := by decide +kernel
theorem dX11_isCentre_16 : decode cX11_isCentre 16 = .ok (.iconst 0, 1) := by decide +kernel
theorem dX11_isCentre_17 : decode cX11_isCentre 17 = .ok (.ireturn, 1) := by decide +kernel
theorem dX11_way_0 : decode cX11_way 0 = .ok (.aload_n 0, 1) := by decide +kernel
theorem dX11_way_1 : decode cX11_way 1 = .ok (.iload_n 1, 1) := by decide +kernel
theorem dX11_way_2 : decode cX11_way 2 = .ok (.invokevirtual 397, 3) := by decide +kernel
theorem dX11_way_5 : decode cX11_way 5 = .ok (.ifCond .eq 27, 3) := by decide +kernel
theorem dX11_way_8 : decode cX11_way 8 = .ok (.aload_n 0, 1) := by decide +kernel
theorem dX11_way_9 : decode cX11_way 9 = .ok (.iload_n 2, 1) := by decide +kernel
theorem dX11_way_10 : decode cX11_way 10 = .ok (.invokevirtual 397, 3) := by decide +kernel
theorem dX11_way_13 : decode cX11_way 13 = .ok (.ifCond .eq 19, 3) := by decide +kernel
theorem dX11_way_16 : decode cX11_way 16 = .ok (.iload_n 1, 1) := by decide +kernel
theorem dX11_way_17 : decode cX11_way 17 = .ok (.iload_n 2, 1) := by decide +kernel
theorem dX11_way_18 : decode cX11_way 18 = .ok (.if_icmp .eq 14, 3) := by decide +kernel
theorem dX11_way_21 : decode cX11_way 21 = .ok (.iload_n 3, 1) := by decide +kernel
theorem dX11_way_22 : decode cX11_way 22 = .ok (.ifCond .lt 10, 3) := by decide +kernel
theorem dX11_way_25 : decode cX11_way 25 = .ok (.iload_n 3, 1) := by decide +kernel
theorem dX11_way_26 : decode cX11_way 26 = .ok (.sipush 600, 3) := by decide +kernel
theorem dX11_way_29 : decode cX11_way 29 = .ok (.if_icmp .le 5, 3) := by decide +kernel
theorem dX11_way_32 : decode cX11_way 32 = .ok (.iconst 0, 1) := by decide +kernel
theorem dX11_way_33 : decode cX11_way 33 = .ok (.ireturn, 1) := by decide +kernel
theorem dX11_way_34 : decode cX11_way 34 = .ok (.aload_n 0, 1) := by decide +kernel
theorem dX11_way_35 : decode cX11_way 35 = .ok (.getfield 215, 3) := by decide +kernel
theorem dX11_way_38 : decode cX11_way 38 = .ok (.bipush 8, 2) := by decide +kernel
theorem dX11_way_40 : decode cX11_way 40 = .ok (.iload_n 1, 1) := by decide +kernel
theorem dX11_way_41 : decode cX11_way 41 = .ok (.imul, 1) := by decide +kernel
theorem dX11_way_42 : decode cX11_way 42 = .ok (.iload_n 2, 1) := by decide +kernel
theorem dX11_way_43 : decode cX11_way 43 = .ok (.iadd, 1) := by decide +kernel
theorem dX11_way_44 : decode cX11_way 44 = .ok (.iload_n 3, 1) := by decide +kernel
theorem dX11_way_45 : decode cX11_way 45 = .ok (.iastore, 1) := by decide +kernel
theorem dX11_way_46 : decode cX11_way 46 = .ok (.aload_n 0, 1) := by decide +kernel
theorem dX11_way_47 : decode cX11_way 47 = .ok (.getfield 215, 3) := by decide +kernel
theorem dX11_way_50 : decode cX11_way 50 = .ok (.bipush 8, 2) := by decide +kernel
theorem dX11_way_52 : decode cX11_way 52 = .ok (.iload_n 2, 1) := by decide +kernel
theorem dX11_way_53 : decode cX11_way 53 = .ok (.imul, 1) := by decide +kernel
theorem dX11_way_54 : decode cX11_way 54 = .ok (.iload_n 1, 1) := by decide +kernel
theorem dX11_way_55 : decode cX11_way 55 = .ok (.iadd, 1) := by decide +kernel
theorem dX11_way_56 : decode cX11_way 56 = .ok (.iload_n 3, 1) := by decide +kernel
theorem dX11_way_57 : decode cX11_way 57 = .ok (.iastore, 1) := by decide +kernel
theorem dX11_way_58 : decode cX11_way 58 = .ok (.iconst 1, 1) := by decide +kernel
theorem dX11_way_59 : decode cX11_way 59 = .ok (.ireturn, 1) := by decide +kernel
theorem dX11_examiner_0 : decode cX11_examiner 0 = .ok (.aload_n 0, 1) := by decide +kernel
theorem dX11_examiner_1 : decode cX11_examiner 1 = .ok (.iload_n 1, 1) := by decide +kernel
theorem dX11_examiner_2 : decode cX11_examiner 2 = .ok (.invokevirtual 397, 3) := by decide +kernel
theorem dX11_examiner_5 : decode cX11_examiner 5 = .ok (.ifCond .eq 22, 3) := by decide +kernel
theorem dX11_examiner_8 : decode cX11_examiner 8 = .ok (.iload_n 2, 1) := by decide +kernel
theorem dX11_examiner_9 : decode cX11_examiner 9 = .ok (.ifCond .lt 18, 3) := by decide +kernel
theorem dX11_examiner_12 : decode cX11_examiner 12 = .ok (.iload_n 2, 1) := by decide +kernel
theorem dX11_examiner_13 : decode cX11_examiner 13 = .ok (.sipush 255, 3) := by decide +kernel
theorem dX11_examiner_16 : decode cX11_examiner 16 = .ok (.if_icmp .gt 11, 3) := by decide +kernel
theorem dX11_examiner_19 : decode cX11_examiner 19 = .ok (.aload_n 0, 1) := by decide +kernel
theorem dX11_examiner_20 : decode cX11_examiner 20 = .ok (.getfield 357, 3) := by decide +kernel
theorem dX11_examiner_23 : decode cX11_examiner 23 = .ok (.iconst 5, 1) := by decide +kernel
theorem dX11_examiner_24 : decode cX11_examiner 24 = .ok (.if_icmp .ne 5, 3) := by decide +kernel
theorem dX11_examiner_27 : decode cX11_examiner 27 = .ok (.iconst (-1), 1) := by decide +kernel
theorem dX11_examiner_28 : decode cX11_examiner 28 = .ok (.ireturn, 1) := by decide +kernel
theorem dX11_examiner_29 : decode cX11_examiner 29 = .ok (.aload_n 0, 1) := by decide +kernel
theorem dX11_examiner_30 : decode cX11_examiner 30 = .ok (.getfield 218, 3) := by decide +kernel
theorem dX11_examiner_33 : decode cX11_examiner 33 = .ok (.aload_n 0, 1) := by decide +kernel
theorem dX11_examiner_34 : decode cX11_examiner 34 = .ok (.getfield 357, 3) := by decide +kernel
theorem dX11_examiner_37 : decode cX11_examiner 37 = .ok (.iload_n 1, 1) := by decide +kernel
theorem dX11_examiner_38 : decode cX11_examiner 38 = .ok (.iastore, 1) := by decide +kernel
theorem dX11_examiner_39 : decode cX11_examiner 39 = .ok (.aload_n 0, 1) := by decide +kernel
theorem dX11_examiner_40 : decode cX11_examiner 40 = .ok (.getfield 221, 3) := by decide +kernel
theorem dX11_examiner_43 : decode cX11_examiner 43 = .ok (.aload_n 0, 1) := by decide +kernel
theorem dX11_examiner_44 : decode cX11_examiner 44 = .ok (.getfield 357, 3) := by decide +kernel
theorem dX11_examiner_47 : decode cX11_examiner 47 = .ok (.iload_n 2, 1) := by decide +kernel
theorem dX11_examiner_48 : decode cX11_examiner 48 = .ok (.iastore, 1) := by decide +kernel
theorem dX11_examiner_49 : decode cX11_examiner 49 = .ok (.aload_n 0, 1) := by decide +kernel
theorem dX11_examiner_50 : decode cX11_examiner 50 = .ok (.dup, 1) := by decide +kernel
theorem dX11_examiner_51 : decode cX11_examiner 51 = .ok (.getfield 357, 3) := by decide +kernel
theorem dX11_examiner_54 : decode cX11_examiner 54 = .ok (.iconst 1, 1) := by decide +kernel
theorem dX11_examiner_55 : decode cX11_examiner 55 = .ok (.iadd, 1) := by decide +kernel
theorem dX11_examiner_56 : decode cX11_examiner 56 = .ok (.putfield 357, 3) := by decide +kernel
theorem dX11_examiner_59 : decode cX11_examiner 59 = .ok (.aload_n 0, 1) := by decide +kernel
theorem dX11_examiner_60 : decode cX11_examiner 60 = .ok (.getfield 357, 3) := by decide +kernel
theorem dX11_examiner_63 : decode cX11_examiner 63 = .ok (.iconst 1, 1) := by decide +kernel
theorem dX11_examiner_64 : decode cX11_examiner 64 = .ok (.isub, 1) := by decide +kernel
theorem dX11_examiner_65 : decode cX11_examiner 65 = .ok (.ireturn, 1) := by decide +kernel
theorem dX11_isExaminer_0 : decode cX11_isExaminer 0 = .ok (.iload_n 1, 1) := by decide +kernel
theorem dX11_isExaminer_1 : decode cX11_isExaminer 1 = .ok (.ifCond .lt 15, 3) := by decide +kernel
theorem dX11_isExaminer_4 : decode cX11_isExaminer 4 = .ok (.iload_n 1, 1) := by decide +kernel
theorem dX11_isExaminer_5 : decode cX11_isExaminer 5 = .ok (.aload_n 0, 1) := by decide +kernel
theorem dX11_isExaminer_6 : decode cX11_isExaminer 6 = .ok (.getfield 357, 3) := by decide +kernel
theorem dX11_isExaminer_9 : decode cX11_isExaminer 9 = .ok (.if_icmp .ge 7, 3) := by decide +kernel
theorem dX11_isExaminer_12 : decode cX11_isExaminer 12 = .ok (.iconst 1, 1) := by decide +kernel
theorem dX11_isExaminer_13 : decode cX11_isExaminer 13 = .ok (.goto 4, 3) := by decide +kernel
theorem dX11_isExaminer_16 : decode cX11_isExaminer 16 = .ok (.iconst 0, 1) := by decide +kernel
theorem dX11_isExaminer_17 : decode cX11_isExaminer 17 = .ok (.ireturn, 1) := by decide +kernel
theorem dX11_session_0 : decode cX11_session 0 = .ok (.aload_n 0, 1) := by decide +kernel
theorem dX11_session_1 : decode cX11_session 1 = .ok (.iload_n 1, 1) := by decide +kernel
theorem dX11_session_2 : decode cX11_session 2 = .ok (.invokevirtual 397, 3) := by decide +kernel
theorem dX11_session_5 : decode cX11_session 5 = .ok (.ifCond .eq 22, 3) := by decide +kernel
theorem dX11_session_8 : decode cX11_session 8 = .ok (.iload_n 2, 1) := by decide +kernel
theorem dX11_session_9 : decode cX11_session 9 = .ok (.ifCond .lt 18, 3) := by decide +kernel
theorem dX11_session_12 : decode cX11_session 12 = .ok (.iload_n 2, 1) := by decide +kernel
theorem dX11_session_13 : decode cX11_session 13 = .ok (.bipush 99, 2) := by decide +kernel
theorem dX11_session_15 : decode cX11_session 15 = .ok (.if_icmp .gt 12, 3) := by decide +kernel
theorem dX11_session_18 : decode cX11_session 18 = .ok (.aload_n 0, 1) := by decide +kernel
theorem dX11_session_19 : decode cX11_session 19 = .ok (.getfield 400, 3) := by decide +kernel
theorem dX11_session_22 : decode cX11_session 22 = .ok (.bipush 9, 2) := by decide +kernel
theorem dX11_session_24 : decode cX11_session 24 = .ok (.if_icmp .ne 5, 3) := by decide +kernel
theorem dX11_session_27 : decode cX11_session 27 = .ok (.iconst (-1), 1) := by decide +kernel
theorem dX11_session_28 : decode cX11_session 28 = .ok (.ireturn, 1) := by decide +kernel
theorem dX11_session_29 : decode cX11_session 29 = .ok (.aload_n 0, 1) := by decide +kernel
theorem dX11_session_30 : decode cX11_session 30 = .ok (.getfield 224, 3) := by decide +kernel
theorem dX11_session_33 : decode cX11_session 33 = .ok (.aload_n 0, 1) := by decide +kernel
theorem dX11_session_34 : decode cX11_session 34 = .ok (.getfield 400, 3) := by decide +kernel
theorem dX11_session_37 : decode cX11_session 37 = .ok (.iload_n 1, 1) := by decide +kernel
theorem dX11_session_38 : decode cX11_session 38 = .ok (.iastore, 1) := by decide +kernel
theorem dX11_session_39 : decode cX11_session 39 = .ok (.aload_n 0, 1) := by decide +kernel
theorem dX11_session_40 : decode cX11_session 40 = .ok (.getfield 227, 3) := by decide +kernel
theorem dX11_session_43 : decode cX11_session 43 = .ok (.aload_n 0, 1) := by decide +kernel
theorem dX11_session_44 : decode cX11_session 44 = .ok (.getfield 400, 3) := by decide +kernel
theorem dX11_session_47 : decode cX11_session 47 = .ok (.iload_n 2, 1) := by decide +kernel
theorem dX11_session_48 : decode cX11_session 48 = .ok (.iastore, 1) := by decide +kernel
theorem dX11_session_49 : decode cX11_session 49 = .ok (.aload_n 0, 1) := by decide +kernel
theorem dX11_session_50 : decode cX11_session 50 = .ok (.dup, 1) := by decide +kernel
theorem dX11_session_51 : decode cX11_session 51 = .ok (.getfield 400, 3) := by decide +kernel
theorem dX11_session_54 : decode cX11_session 54 = .ok (.iconst 1, 1) := by decide +kernel
theorem dX11_session_55 : decode cX11_session 55 = .ok (.iadd, 1) := by decide +kernel
theorem dX11_session_56 : decode cX11_session 56 = .ok (.putfield 400, 3) := by decide +kernel
theorem dX11_session_59 : decode cX11_session 59 = .ok (.aload_n 0, 1) := by decide +kernel
theorem dX11_session_60 : decode cX11_session 60 = .ok (.getfield 400, 3) := by decide +kernel
theorem dX11_session_63 : decode cX11_session 63 = .ok (.iconst 1, 1) := by decide +kernel
theorem dX11_session_64 : decode cX11_session 64 = .ok (.isub, 1) := by decide +kernel
theorem dX11_session_65 : decode cX11_session 65 = .ok (.ireturn, 1) := by decide +kernel
theorem dX11_isSession_0 : decode cX11_isSession 0 = .ok (.iload_n 1, 1) := by decide +kernel
theorem dX11_isSession_1 : decode cX11_isSession 1 = .ok (.ifCond .lt 15, 3) := by decide +kernel
theorem dX11_isSession_4 : decode cX11_isSession 4 = .ok (.iload_n 1, 1) := by decide +kernel
theorem dX11_isSession_5 : decode cX11_isSession 5 = .ok (.aload_n 0, 1) := by decide +kernel
theorem dX11_isSession_6 : decode cX11_isSession 6 = .ok (.getfield 400, 3) := by decide +kernel
theorem dX11_isSession_9 : decode cX11_isSession 9 = .ok (.if_icmp .ge 7, 3) := by decide +kernel
theorem dX11_isSession_12 : decode cX11_isSession 12 = .ok (.iconst 1, 1) := by decide +kernel
theorem dX11_isSession_13 : decode cX11_isSession 13 = .ok (.goto 4, 3) := by decide +kernel
theorem dX11_isSession_16 : decode cX11_isSession 16 = .ok (.iconst 0, 1) := by decide +kernel
theorem dX11_isSession_17 : decode cX11_isSession 17 = .ok (.ireturn, 1) := by decide +kernel
theorem dX11_minutesIn_0 : decode cX11_minutesIn 0 = .ok (.iconst 0, 1) := by decide +kernel
theorem dX11_minutesIn_1 : decode cX11_minutesIn 1 = .ok (.istore_n 3, 1) := by decide +kernel
theorem dX11_minutesIn_2 : decode cX11_minutesIn 2 = .ok (.iconst 0, 1) := by decide +kernel
theorem dX11_minutesIn_3 : decode cX11_minutesIn 3 = .ok (.istore 4, 2) := by decide +kernel
theorem dX11_minutesIn_5 : decode cX11_minutesIn 5 = .ok (.iload 4, 2) := by decide +kernel
theorem dX11_minutesIn_7 : decode cX11_minutesIn 7 = .ok (.aload_n 0, 1) := by decide +kernel
theorem dX11_minutesIn_8 : decode cX11_minutesIn 8 = .ok (.getfield 354, 3) := by decide +kernel
theorem dX11_minutesIn_11 : decode cX11_minutesIn 11 = .ok (.if_icmp .ge 43, 3) := by decide +kernel
theorem dX11_minutesIn_14 : decode cX11_minutesIn 14 = .ok (.iload_n 3, 1) := by decide +kernel
theorem dX11_minutesIn_15 : decode cX11_minutesIn 15 = .ok (.aload_n 0, 1) := by decide +kernel
theorem dX11_minutesIn_16 : decode cX11_minutesIn 16 = .ok (.getfield 203, 3) := by decide +kernel
theorem dX11_minutesIn_19 : decode cX11_minutesIn 19 = .ok (.iload 4, 2) := by decide +kernel
theorem dX11_minutesIn_21 : decode cX11_minutesIn 21 = .ok (.iaload, 1) := by decide +kernel
theorem dX11_minutesIn_22 : decode cX11_minutesIn 22 = .ok (.iload_n 1, 1) := by decide +kernel
theorem dX11_minutesIn_23 : decode cX11_minutesIn 23 = .ok (.if_icmp .ne 22, 3) := by decide +kernel
theorem dX11_minutesIn_26 : decode cX11_minutesIn 26 = .ok (.iload 4, 2) := by decide +kernel
theorem dX11_minutesIn_28 : decode cX11_minutesIn 28 = .ok (.iload_n 2, 1) := by decide +kernel
theorem dX11_minutesIn_29 : decode cX11_minutesIn 29 = .ok (.if_icmp .eq 16, 3) := by decide +kernel
theorem dX11_minutesIn_32 : decode cX11_minutesIn 32 = .ok (.aload_n 0, 1) := by decide +kernel
theorem dX11_minutesIn_33 : decode cX11_minutesIn 33 = .ok (.aload_n 0, 1) := by decide +kernel
theorem dX11_minutesIn_34 : decode cX11_minutesIn 34 = .ok (.iload 4, 2) := by decide +kernel
theorem dX11_minutesIn_36 : decode cX11_minutesIn 36 = .ok (.invokevirtual 388, 3) := by decide +kernel
theorem dX11_minutesIn_39 : decode cX11_minutesIn 39 = .ok (.invokevirtual 351, 3) := by decide +kernel
theorem dX11_minutesIn_42 : decode cX11_minutesIn 42 = .ok (.goto 4, 3) := by decide +kernel
theorem dX11_minutesIn_45 : decode cX11_minutesIn 45 = .ok (.iconst 0, 1) := by decide +kernel
theorem dX11_minutesIn_46 : decode cX11_minutesIn 46 = .ok (.iadd, 1) := by decide +kernel
theorem dX11_minutesIn_47 : decode cX11_minutesIn 47 = .ok (.istore_n 3, 1) := by decide +kernel
theorem dX11_minutesIn_48 : decode cX11_minutesIn 48 = .ok (.iinc 4 1, 3) := by decide +kernel
theorem dX11_minutesIn_51 : decode cX11_minutesIn 51 = .ok (.goto (-46), 3) := by decide +kernel
theorem dX11_minutesIn_54 : decode cX11_minutesIn 54 = .ok (.iload_n 3, 1) := by decide +kernel
theorem dX11_minutesIn_55 : decode cX11_minutesIn 55 = .ok (.ireturn, 1) := by decide +kernel
theorem dX11_put_0 : decode cX11_put 0 = .ok (.aload_n 0, 1) := by decide +kernel
theorem dX11_put_1 : decode cX11_put 1 = .ok (.iload_n 1, 1) := by decide +kernel
theorem dX11_put_2 : decode cX11_put 2 = .ok (.invokevirtual 362, 3) := by decide +kernel
theorem dX11_put_5 : decode cX11_put 5 = .ok (.ifCond .eq 38, 3) := by decide +kernel
theorem dX11_put_8 : decode cX11_put 8 = .ok (.iload_n 2, 1) := by decide +kernel
theorem dX11_put_9 : decode cX11_put 9 = .ok (.iconst (-1), 1) := by decide +kernel
theorem dX11_put_10 : decode cX11_put 10 = .ok (.if_icmp .eq 35, 3) := by decide +kernel
theorem dX11_put_13 : decode cX11_put 13 = .ok (.aload_n 0, 1) := by decide +kernel
theorem dX11_put_14 : decode cX11_put 14 = .ok (.iload_n 2, 1) := by decide +kernel
theorem dX11_put_15 : decode cX11_put 15 = .ok (.invokevirtual 403, 3) := by decide +kernel
theorem dX11_put_18 : decode cX11_put 18 = .ok (.ifCond .eq 25, 3) := by decide +kernel
theorem dX11_put_21 : decode cX11_put 21 = .ok (.aload_n 0, 1) := by decide +kernel
theorem dX11_put_22 : decode cX11_put 22 = .ok (.iload_n 2, 1) := by decide +kernel
theorem dX11_put_23 : decode cX11_put 23 = .ok (.iload_n 1, 1) := by decide +kernel
theorem dX11_put_24 : decode cX11_put 24 = .ok (.invokevirtual 406, 3) := by decide +kernel
theorem dX11_put_27 : decode cX11_put 27 = .ok (.aload_n 0, 1) := by decide +kernel
theorem dX11_put_28 : decode cX11_put 28 = .ok (.aload_n 0, 1) := by decide +kernel
theorem dX11_put_29 : decode cX11_put 29 = .ok (.iload_n 1, 1) := by decide +kernel
theorem dX11_put_30 : decode cX11_put 30 = .ok (.invokevirtual 388, 3) := by decide +kernel
theorem dX11_put_33 : decode cX11_put 33 = .ok (.invokevirtual 351, 3) := by decide +kernel
theorem dX11_put_36 : decode cX11_put 36 = .ok (.iadd, 1) := by decide +kernel
theorem dX11_put_37 : decode cX11_put 37 = .ok (.sipush 300, 3) := by decide +kernel
theorem dX11_put_40 : decode cX11_put 40 = .ok (.if_icmp .le 5, 3) := by decide +kernel
theorem dX11_put_43 : decode cX11_put 43 = .ok (.iconst 0, 1) := by decide +kernel
theorem dX11_put_44 : decode cX11_put 44 = .ok (.ireturn, 1) := by decide +kernel
theorem dX11_put_45 : decode cX11_put 45 = .ok (.aload_n 0, 1) := by decide +kernel
theorem dX11_put_46 : decode cX11_put 46 = .ok (.getfield 203, 3) := by decide +kernel
theorem dX11_put_49 : decode cX11_put 49 = .ok (.iload_n 1, 1) := by decide +kernel
theorem dX11_put_50 : decode cX11_put 50 = .ok (.iload_n 2, 1) := by decide +kernel
theorem dX11_put_51 : decode cX11_put 51 = .ok (.iastore, 1) := by decide +kernel
theorem dX11_put_52 : decode cX11_put 52 = .ok (.iconst 1, 1) := by decide +kernel
theorem dX11_put_53 : decode cX11_put 53 = .ok (.ireturn, 1) := by decide +kernel
theorem dX11_of_0 : decode cX11_of 0 = .ok (.aload_n 0, 1) := by decide +kernel
theorem dX11_of_1 : decode cX11_of 1 = .ok (.iload_n 1, 1) := by decide +kernel
theorem dX11_of_2 : decode cX11_of 2 = .ok (.invokevirtual 403, 3) := by decide +kernel
theorem dX11_of_5 : decode cX11_of 5 = .ok (.ifCond .ne 5, 3) := by decide +kernel
theorem dX11_of_8 : decode cX11_of 8 = .ok (.iconst (-1), 1) := by decide +kernel
theorem dX11_of_9 : decode cX11_of 9 = .ok (.ireturn, 1) := by decide +kernel
theorem dX11_of_10 : decode cX11_of 10 = .ok (.iconst 0, 1) := by decide +kernel
theorem dX11_of_11 : decode cX11_of 11 = .ok (.istore_n 3, 1) := by decide +kernel
theorem dX11_of_12 : decode cX11_of 12 = .ok (.iconst 0, 1) := by decide +kernel
theorem dX11_of_13 : decode cX11_of 13 = .ok (.istore 4, 2) := by decide +kernel
theorem dX11_of_15 : decode cX11_of 15 = .ok (.iload 4, 2) := by decide +kernel
theorem dX11_of_17 : decode cX11_of 17 = .ok (.aload_n 0, 1) := by decide +kernel
theorem dX11_of_18 : decode cX11_of 18 = .ok (.getfield 354, 3) := by decide +kernel
theorem dX11_of_21 : decode cX11_of 21 = .ok (.if_icmp .ge 28, 3) := by decide +kernel
theorem dX11_of_24 : decode cX11_of 24 = .ok (.iload_n 3, 1) := by decide +kernel
theorem dX11_of_25 : decode cX11_of 25 = .ok (.aload_n 0, 1) := by decide +kernel
theorem dX11_of_26 : decode cX11_of 26 = .ok (.getfield 203, 3) := by decide +kernel
theorem dX11_of_29 : decode cX11_of 29 = .ok (.iload 4, 2) := by decide +kernel
theorem dX11_of_31 : decode cX11_of 31 = .ok (.iaload, 1) := by decide +kernel
theorem dX11_of_32 : decode cX11_of 32 = .ok (.iload_n 1, 1) := by decide +kernel
theorem dX11_of_33 : decode cX11_of 33 = .ok (.if_icmp .ne 7, 3) := by decide +kernel
theorem dX11_of_36 : decode cX11_of 36 = .ok (.iconst 1, 1) := by decide +kernel
theorem dX11_of_37 : decode cX11_of 37 = .ok (.goto 4, 3) := by decide +kernel
theorem dX11_of_40 : decode cX11_of 40 = .ok (.iconst 0, 1) := by decide +kernel
theorem dX11_of_41 : decode cX11_of 41 = .ok (.iadd, 1) := by decide +kernel
theorem dX11_of_42 : decode cX11_of 42 = .ok (.istore_n 3, 1) := by decide +kernel
theorem dX11_of_43 : decode cX11_of 43 = .ok (.iinc 4 1, 3) := by decide +kernel
theorem dX11_of_46 : decode cX11_of 46 = .ok (.goto (-31), 3) := by decide +kernel
theorem dX11_of_49 : decode cX11_of 49 = .ok (.iload_n 2, 1) := by decide +kernel
theorem dX11_of_50 : decode cX11_of 50 = .ok (.tableswitch 53 0 3 #[30, 37, 44, 46], 30) := by decide +kernel
theorem dX11_of_80 : decode cX11_of 80 = .ok (.aload_n 0, 1) := by decide +kernel
theorem dX11_of_81 : decode cX11_of 81 = .ok (.getfield 224, 3) := by decide +kernel
theorem dX11_of_84 : decode cX11_of 84 = .ok (.iload_n 1, 1) := by decide +kernel
theorem dX11_of_85 : decode cX11_of 85 = .ok (.iaload, 1) := by decide +kernel
theorem dX11_of_86 : decode cX11_of 86 = .ok (.ireturn, 1) := by decide +kernel
theorem dX11_of_87 : decode cX11_of 87 = .ok (.aload_n 0, 1) := by decide +kernel
theorem dX11_of_88 : decode cX11_of 88 = .ok (.getfield 227, 3) := by decide +kernel
theorem dX11_of_91 : decode cX11_of 91 = .ok (.iload_n 1, 1) := by decide +kernel
theorem dX11_of_92 : decode cX11_of 92 = .ok (.iaload, 1) := by decide +kernel
theorem dX11_of_93 : decode cX11_of 93 = .ok (.ireturn, 1) := by decide +kernel
theorem dX11_of_94 : decode cX11_of 94 = .ok (.iload_n 3, 1) := by decide +kernel
theorem dX11_of_95 : decode cX11_of 95 = .ok (.ireturn, 1) := by decide +kernel
theorem dX11_of_96 : decode cX11_of 96 = .ok (.aload_n 0, 1) := by decide +kernel
theorem dX11_of_97 : decode cX11_of 97 = .ok (.iload_n 1, 1) := by decide +kernel
theorem dX11_of_98 : decode cX11_of 98 = .ok (.iconst (-1), 1) := by decide +kernel
theorem dX11_of_99 : decode cX11_of 99 = .ok (.invokevirtual 406, 3) := by decide +kernel
theorem dX11_of_102 : decode cX11_of 102 = .ok (.ireturn, 1) := by decide +kernel
theorem dX11_of_103 : decode cX11_of 103 = .ok (.iconst (-1), 1) := by decide +kernel
theorem dX11_of_104 : decode cX11_of 104 = .ok (.ireturn, 1) := by decide +kernel
theorem dX11_hasHeard_0 : decode cX11_hasHeard 0 = .ok (.iconst 0, 1) := by decide +kernel
theorem dX11_hasHeard_1 : decode cX11_hasHeard 1 = .ok (.istore_n 3, 1) := by decide +kernel
theorem dX11_hasHeard_2 : decode cX11_hasHeard 2 = .ok (.iload_n 3, 1) := by decide +kernel
theorem dX11_hasHeard_3 : decode cX11_hasHeard 3 = .ok (.aload_n 0, 1) := by decide +kernel
theorem dX11_hasHeard_4 : decode cX11_hasHeard 4 = .ok (.getfield 409, 3) := by decide +kernel
theorem dX11_hasHeard_7 : decode cX11_hasHeard 7 = .ok (.if_icmp .ge 60, 3) := by decide +kernel
theorem dX11_hasHeard_10 : decode cX11_hasHeard 10 = .ok (.aload_n 0, 1) := by decide +kernel
theorem dX11_hasHeard_11 : decode cX11_hasHeard 11 = .ok (.getfield 245, 3) := by decide +kernel
theorem dX11_hasHeard_14 : decode cX11_hasHeard 14 = .ok (.iload_n 3, 1) := by decide +kernel
theorem dX11_hasHeard_15 : decode cX11_hasHeard 15 = .ok (.iaload, 1) := by decide +kernel
theorem dX11_hasHeard_16 : decode cX11_hasHeard 16 = .ok (.iload_n 1, 1) := by decide +kernel
theorem dX11_hasHeard_17 : decode cX11_hasHeard 17 = .ok (.if_icmp .ne 44, 3) := by decide +kernel
theorem dX11_hasHeard_20 : decode cX11_hasHeard 20 = .ok (.aload_n 0, 1) := by decide +kernel
theorem dX11_hasHeard_21 : decode cX11_hasHeard 21 = .ok (.getfield 257, 3) := by decide +kernel
theorem dX11_hasHeard_24 : decode cX11_hasHeard 24 = .ok (.iload_n 3, 1) := by decide +kernel
theorem dX11_hasHeard_25 : decode cX11_hasHeard 25 = .ok (.iaload, 1) := by decide +kernel
theorem dX11_hasHeard_26 : decode cX11_hasHeard 26 = .ok (.ifCond .ge 35, 3) := by decide +kernel
theorem dX11_hasHeard_29 : decode cX11_hasHeard 29 = .ok (.aload_n 0, 1) := by decide +kernel
theorem dX11_hasHeard_30 : decode cX11_hasHeard 30 = .ok (.getfield 242, 3) := by decide +kernel
theorem dX11_hasHeard_33 : decode cX11_hasHeard 33 = .ok (.iload_n 3, 1) := by decide +kernel
theorem dX11_hasHeard_34 : decode cX11_hasHeard 34 = .ok (.iaload, 1) := by decide +kernel
theorem dX11_hasHeard_35 : decode cX11_hasHeard 35 = .ok (.iload_n 2, 1) := by decide +kernel
theorem dX11_hasHeard_36 : decode cX11_hasHeard 36 = .ok (.if_icmp .eq 25, 3) := by decide +kernel
theorem dX11_hasHeard_39 : decode cX11_hasHeard 39 = .ok (.aload_n 0, 1) := by decide +kernel
theorem dX11_hasHeard_40 : decode cX11_hasHeard 40 = .ok (.getfield 182, 3) := by decide +kernel
theorem dX11_hasHeard_43 : decode cX11_hasHeard 43 = .ok (.aload_n 0, 1) := by decide +kernel
theorem dX11_hasHeard_44 : decode cX11_hasHeard 44 = .ok (.getfield 242, 3) := by decide +kernel
theorem dX11_hasHeard_47 : decode cX11_hasHeard 47 = .ok (.iload_n 3, 1) := by decide +kernel
theorem dX11_hasHeard_48 : decode cX11_hasHeard 48 = .ok (.iaload, 1) := by decide +kernel
theorem dX11_hasHeard_49 : decode cX11_hasHeard 49 = .ok (.iaload, 1) := by decide +kernel
theorem dX11_hasHeard_50 : decode cX11_hasHeard 50 = .ok (.aload_n 0, 1) := by decide +kernel
theorem dX11_hasHeard_51 : decode cX11_hasHeard 51 = .ok (.getfield 182, 3) := by decide +kernel
theorem dX11_hasHeard_54 : decode cX11_hasHeard 54 = .ok (.iload_n 2, 1) := by decide +kernel
theorem dX11_hasHeard_55 : decode cX11_hasHeard 55 = .ok (.iaload, 1) := by decide +kernel
theorem dX11_hasHeard_56 : decode cX11_hasHeard 56 = .ok (.if_icmp .ne 5, 3) := by decide +kernel
theorem dX11_hasHeard_59 : decode cX11_hasHeard 59 = .ok (.iconst 1, 1) := by decide +kernel
theorem dX11_hasHeard_60 : decode cX11_hasHeard 60 = .ok (.ireturn, 1) := by decide +kernel
theorem dX11_hasHeard_61 : decode cX11_hasHeard 61 = .ok (.iinc 3 1, 3) := by decide +kernel
theorem dX11_hasHeard_64 : decode cX11_hasHeard 64 = .ok (.goto (-62), 3) := by decide +kernel
theorem dX11_hasHeard_67 : decode cX11_hasHeard 67 = .ok (.iconst 0, 1) := by decide +kernel
theorem dX11_hasHeard_68 : decode cX11_hasHeard 68 = .ok (.ireturn, 1) := by decide +kernel
theorem dX11_mayTake_0 : decode cX11_mayTake 0 = .ok (.iconst 0, 1) := by decide +kernel
theorem dX11_mayTake_1 : decode cX11_mayTake 1 = .ok (.istore_n 3, 1) := by decide +kernel
theorem dX11_mayTake_2 : decode cX11_mayTake 2 = .ok (.iload_n 3, 1) := by decide +kernel
theorem dX11_mayTake_3 : decode cX11_mayTake 3 = .ok (.aload_n 0, 1) := by decide +kernel
theorem dX11_mayTake_4 : decode cX11_mayTake 4 = .ok (.getfield 354, 3) := by decide +kernel
theorem dX11_mayTake_7 : decode cX11_mayTake 7 = .ok (.if_icmp .ge 61, 3) := by decide +kernel
theorem dX11_mayTake_10 : decode cX11_mayTake 10 = .ok (.aload_n 0, 1) := by decide +kernel
theorem dX11_mayTake_11 : decode cX11_mayTake 11 = .ok (.getfield 203, 3) := by decide +kernel
theorem dX11_mayTake_14 : decode cX11_mayTake 14 = .ok (.iload_n 3, 1) := by decide +kernel
theorem dX11_mayTake_15 : decode cX11_mayTake 15 = .ok (.iaload, 1) := by decide +kernel
theorem dX11_mayTake_16 : decode cX11_mayTake 16 = .ok (.iload_n 2, 1) := by decide +kernel
theorem dX11_mayTake_17 : decode cX11_mayTake 17 = .ok (.if_icmp .eq 6, 3) := by decide +kernel
theorem dX11_mayTake_20 : decode cX11_mayTake 20 = .ok (.goto 42, 3) := by decide +kernel
theorem dX11_mayTake_23 : decode cX11_mayTake 23 = .ok (.aload_n 0, 1) := by decide +kernel
theorem dX11_mayTake_24 : decode cX11_mayTake 24 = .ok (.getfield 221, 3) := by decide +kernel
theorem dX11_mayTake_27 : decode cX11_mayTake 27 = .ok (.iload_n 1, 1) := by decide +kernel
theorem dX11_mayTake_28 : decode cX11_mayTake 28 = .ok (.iaload, 1) := by decide +kernel
theorem dX11_mayTake_29 : decode cX11_mayTake 29 = .ok (.aload_n 0, 1) := by decide +kernel
theorem dX11_mayTake_30 : decode cX11_mayTake 30 = .ok (.getfield 191, 3) := by decide +kernel
theorem dX11_mayTake_33 : decode cX11_mayTake 33 = .ok (.iload_n 3, 1) := by decide +kernel
theorem dX11_mayTake_34 : decode cX11_mayTake 34 = .ok (.iaload, 1) := by decide +kernel
theorem dX11_mayTake_35 : decode cX11_mayTake 35 = .ok (.ishr, 1) := by decide +kernel
theorem dX11_mayTake_36 : decode cX11_mayTake 36 = .ok (.iconst 1, 1) := by decide +kernel
theorem dX11_mayTake_37 : decode cX11_mayTake 37 = .ok (.iand, 1) := by decide +kernel
theorem dX11_mayTake_38 : decode cX11_mayTake 38 = .ok (.ifCond .eq 22, 3) := by decide +kernel
theorem dX11_mayTake_41 : decode cX11_mayTake 41 = .ok (.aload_n 0, 1) := by decide +kernel
theorem dX11_mayTake_42 : decode cX11_mayTake 42 = .ok (.getfield 197, 3) := by decide +kernel
theorem dX11_mayTake_45 : decode cX11_mayTake 45 = .ok (.iload_n 3, 1) := by decide +kernel
theorem dX11_mayTake_46 : decode cX11_mayTake 46 = .ok (.iaload, 1) := by decide +kernel
theorem dX11_mayTake_47 : decode cX11_mayTake 47 = .ok (.iload_n 1, 1) := by decide +kernel
theorem dX11_mayTake_48 : decode cX11_mayTake 48 = .ok (.if_icmp .eq 12, 3) := by decide +kernel
theorem dX11_mayTake_51 : decode cX11_mayTake 51 = .ok (.aload_n 0, 1) := by decide +kernel
theorem dX11_mayTake_52 : decode cX11_mayTake 52 = .ok (.iload_n 1, 1) := by decide +kernel
theorem dX11_mayTake_53 : decode cX11_mayTake 53 = .ok (.iload_n 3, 1) := by decide +kernel
theorem dX11_mayTake_54 : decode cX11_mayTake 54 = .ok (.invokevirtual 412, 3) := by decide +kernel
theorem dX11_mayTake_57 : decode cX11_mayTake 57 = .ok (.ifCond .eq 5, 3) := by decide +kernel
theorem dX11_mayTake_60 : decode cX11_mayTake 60 = .ok (.iconst 0, 1) := by decide +kernel
theorem dX11_mayTake_61 : decode cX11_mayTake 61 = .ok (.ireturn, 1) := by decide +kernel
theorem dX11_mayTake_62 : decode cX11_mayTake 62 = .ok (.iinc 3 1, 3) := by decide +kernel
theorem dX11_mayTake_65 : decode cX11_mayTake 65 = .ok (.goto (-63), 3) := by decide +kernel
theorem dX11_mayTake_68 : decode cX11_mayTake 68 = .ok (.iconst 1, 1) := by decide +kernel
theorem dX11_mayTake_69 : decode cX11_mayTake 69 = .ok (.ireturn, 1) := by decide +kernel
theorem dX11_may_0 : decode cX11_may 0 = .ok (.aload_n 0, 1) := by decide +kernel
theorem dX11_may_1 : decode cX11_may 1 = .ok (.iload_n 1, 1) := by decide +kernel
theorem dX11_may_2 : decode cX11_may 2 = .ok (.invokevirtual 416, 3) := by decide +kernel
theorem dX11_may_5 : decode cX11_may 5 = .ok (.ifCond .eq 11, 3) := by decide +kernel
theorem dX11_may_8 : decode cX11_may 8 = .ok (.aload_n 0, 1) := by decide +kernel
theorem dX11_may_9 : decode cX11_may 9 = .ok (.iload_n 2, 1) := by decide +kernel
theorem dX11_may_10 : decode cX11_may 10 = .ok (.invokevirtual 403, 3) := by decide +kernel
theorem dX11_may_13 : decode cX11_may 13 = .ok (.ifCond .ne 7, 3) := by decide +kernel
theorem dX11_may_16 : decode cX11_may 16 = .ok (.iconst (-1), 1) := by decide +kernel
theorem dX11_may_17 : decode cX11_may 17 = .ok (.goto 17, 3) := by decide +kernel
theorem dX11_may_20 : decode cX11_may 20 = .ok (.aload_n 0, 1) := by decide +kernel
theorem dX11_may_21 : decode cX11_may 21 = .ok (.iload_n 1, 1) := by decide +kernel
theorem dX11_may_22 : decode cX11_may 22 = .ok (.iload_n 2, 1) := by decide +kernel
theorem dX11_may_23 : decode cX11_may 23 = .ok (.invokevirtual 419, 3) := by decide +kernel
theorem dX11_may_26 : decode cX11_may 26 = .ok (.ifCond .eq 7, 3) := by decide +kernel
theorem dX11_may_29 : decode cX11_may 29 = .ok (.iconst 1, 1) := by decide +kernel
theorem dX11_may_30 : decode cX11_may 30 = .ok (.goto 4, 3) := by decide +kernel
theorem dX11_may_33 : decode cX11_may 33 = .ok (.iconst 0, 1) := by decide +kernel
theorem dX11_may_34 : decode cX11_may 34 = .ok (.ireturn, 1) := by decide +kernel
theorem dX11_stuck_0 : decode cX11_stuck 0 = .ok (.iconst 0, 1) := by decide +kernel
theorem dX11_stuck_1 : decode cX11_stuck 1 = .ok (.istore_n 1, 1) := by decide +kernel
theorem dX11_stuck_2 : decode cX11_stuck 2 = .ok (.iload_n 1, 1) := by decide +kernel
theorem dX11_stuck_3 : decode cX11_stuck 3 = .ok (.aload_n 0, 1) := by decide +kernel
theorem dX11_stuck_4 : decode cX11_stuck 4 = .ok (.getfield 400, 3) := by decide +kernel
theorem dX11_stuck_7 : decode cX11_stuck 7 = .ok (.if_icmp .ge 52, 3) := by decide +kernel
theorem dX11_stuck_10 : decode cX11_stuck 10 = .ok (.iconst 0, 1) := by decide +kernel
theorem dX11_stuck_11 : decode cX11_stuck 11 = .ok (.istore_n 2, 1) := by decide +kernel
theorem dX11_stuck_12 : decode cX11_stuck 12 = .ok (.iconst 0, 1) := by decide +kernel
theorem dX11_stuck_13 : decode cX11_stuck 13 = .ok (.istore_n 3, 1) := by decide +kernel
theorem dX11_stuck_14 : decode cX11_stuck 14 = .ok (.iload_n 3, 1) := by decide +kernel
theorem dX11_stuck_15 : decode cX11_stuck 15 = .ok (.aload_n 0, 1) := by decide +kernel
theorem dX11_stuck_16 : decode cX11_stuck 16 = .ok (.getfield 357, 3) := by decide +kernel
theorem dX11_stuck_19 : decode cX11_stuck 19 = .ok (.if_icmp .ge 28, 3) := by decide +kernel
theorem dX11_stuck_22 : decode cX11_stuck 22 = .ok (.iload_n 2, 1) := by decide +kernel
theorem dX11_stuck_23 : decode cX11_stuck 23 = .ok (.ifCond .ne 12, 3) := by decide +kernel
theorem dX11_stuck_26 : decode cX11_stuck 26 = .ok (.aload_n 0, 1) := by decide +kernel
theorem dX11_stuck_27 : decode cX11_stuck 27 = .ok (.iload_n 3, 1) := by decide +kernel
theorem dX11_stuck_28 : decode cX11_stuck 28 = .ok (.iload_n 1, 1) := by decide +kernel
theorem dX11_stuck_29 : decode cX11_stuck 29 = .ok (.invokevirtual 419, 3) := by decide +kernel
theorem dX11_stuck_32 : decode cX11_stuck 32 = .ok (.ifCond .eq 7, 3) := by decide +kernel
theorem dX11_stuck_35 : decode cX11_stuck 35 = .ok (.iconst 1, 1) := by decide +kernel
theorem dX11_stuck_36 : decode cX11_stuck 36 = .ok (.goto 4, 3) := by decide +kernel
theorem dX11_stuck_39 : decode cX11_stuck 39 = .ok (.iconst 0, 1) := by decide +kernel
theorem dX11_stuck_40 : decode cX11_stuck 40 = .ok (.istore_n 2, 1) := by decide +kernel
theorem dX11_stuck_41 : decode cX11_stuck 41 = .ok (.iinc 3 1, 3) := by decide +kernel
theorem dX11_stuck_44 : decode cX11_stuck 44 = .ok (.goto (-30), 3) := by decide +kernel
theorem dX11_stuck_47 : decode cX11_stuck 47 = .ok (.iload_n 2, 1) := by decide +kernel
theorem dX11_stuck_48 : decode cX11_stuck 48 = .ok (.ifCond .ne 5, 3) := by decide +kernel
theorem dX11_stuck_51 : decode cX11_stuck 51 = .ok (.iload_n 1, 1) := by decide +kernel
theorem dX11_stuck_52 : decode cX11_stuck 52 = .ok (.ireturn, 1) := by decide +kernel
theorem dX11_stuck_53 : decode cX11_stuck 53 = .ok (.iinc 1 1, 3) := by decide +kernel
theorem dX11_stuck_56 : decode cX11_stuck 56 = .ok (.goto (-54), 3) := by decide +kernel
theorem dX11_stuck_59 : decode cX11_stuck 59 = .ok (.iconst (-1), 1) := by decide +kernel
theorem dX11_stuck_60 : decode cX11_stuck 60 = .ok (.ireturn, 1) := by decide +kernel
theorem dX11_nextOf_0 : decode cX11_nextOf 0 = .ok (.iconst (-1), 1) := by decide +kernel
theorem dX11_nextOf_1 : decode cX11_nextOf 1 = .ok (.istore_n 3, 1) := by decide +kernel
theorem dX11_nextOf_2 : decode cX11_nextOf 2 = .ok (.iconst 0, 1) := by decide +kernel
theorem dX11_nextOf_3 : decode cX11_nextOf 3 = .ok (.istore 4, 2) := by decide +kernel
theorem dX11_nextOf_5 : decode cX11_nextOf 5 = .ok (.iload 4, 2) := by decide +kernel
theorem dX11_nextOf_7 : decode cX11_nextOf 7 = .ok (.aload_n 0, 1) := by decide +kernel
theorem dX11_nextOf_8 : decode cX11_nextOf 8 = .ok (.getfield 400, 3) := by decide +kernel
theorem dX11_nextOf_11 : decode cX11_nextOf 11 = .ok (.if_icmp .ge 53, 3) := by decide +kernel
theorem dX11_nextOf_14 : decode cX11_nextOf 14 = .ok (.iload_n 1, 1) := by decide +kernel
theorem dX11_nextOf_15 : decode cX11_nextOf 15 = .ok (.iload 4, 2) := by decide +kernel
theorem dX11_nextOf_17 : decode cX11_nextOf 17 = .ok (.ishr, 1) := by decide +kernel
theorem dX11_nextOf_18 : decode cX11_nextOf 18 = .ok (.iconst 1, 1) := by decide +kernel
theorem dX11_nextOf_19 : decode cX11_nextOf 19 = .ok (.iand, 1) := by decide +kernel
theorem dX11_nextOf_20 : decode cX11_nextOf 20 = .ok (.iconst 1, 1) := by decide +kernel
theorem dX11_nextOf_21 : decode cX11_nextOf 21 = .ok (.if_icmp .ne 37, 3) := by decide +kernel
theorem dX11_nextOf_24 : decode cX11_nextOf 24 = .ok (.aload_n 0, 1) := by decide +kernel
theorem dX11_nextOf_25 : decode cX11_nextOf 25 = .ok (.getfield 227, 3) := by decide +kernel
theorem dX11_nextOf_28 : decode cX11_nextOf 28 = .ok (.iload 4, 2) := by decide +kernel
theorem dX11_nextOf_30 : decode cX11_nextOf 30 = .ok (.iaload, 1) := by decide +kernel
theorem dX11_nextOf_31 : decode cX11_nextOf 31 = .ok (.iload_n 2, 1) := by decide +kernel
theorem dX11_nextOf_32 : decode cX11_nextOf 32 = .ok (.if_icmp .lt 26, 3) := by decide +kernel
theorem dX11_nextOf_35 : decode cX11_nextOf 35 = .ok (.iload_n 3, 1) := by decide +kernel
theorem dX11_nextOf_36 : decode cX11_nextOf 36 = .ok (.ifCond .lt 19, 3) := by decide +kernel
theorem dX11_nextOf_39 : decode cX11_nextOf 39 = .ok (.aload_n 0, 1) := by decide +kernel
theorem dX11_nextOf_40 : decode cX11_nextOf 40 = .ok (.getfield 227, 3) := by decide +kernel
theorem dX11_nextOf_43 : decode cX11_nextOf 43 = .ok (.iload 4, 2) := by decide +kernel
theorem dX11_nextOf_45 : decode cX11_nextOf 45 = .ok (.iaload, 1) := by decide +kernel
theorem dX11_nextOf_46 : decode cX11_nextOf 46 = .ok (.aload_n 0, 1) := by decide +kernel
theorem dX11_nextOf_47 : decode cX11_nextOf 47 = .ok (.getfield 227, 3) := by decide +kernel
theorem dX11_nextOf_50 : decode cX11_nextOf 50 = .ok (.iload_n 3, 1) := by decide +kernel
theorem dX11_nextOf_51 : decode cX11_nextOf 51 = .ok (.iaload, 1) := by decide +kernel
theorem dX11_nextOf_52 : decode cX11_nextOf 52 = .ok (.if_icmp .ge 6, 3) := by decide +kernel
theorem dX11_nextOf_55 : decode cX11_nextOf 55 = .ok (.iload 4, 2) := by decide +kernel
theorem dX11_nextOf_57 : decode cX11_nextOf 57 = .ok (.istore_n 3, 1) := by decide +kernel
theorem dX11_nextOf_58 : decode cX11_nextOf 58 = .ok (.iinc 4 1, 3) := by decide +kernel
theorem dX11_nextOf_61 : decode cX11_nextOf 61 = .ok (.goto (-56), 3) := by decide +kernel
theorem dX11_nextOf_64 : decode cX11_nextOf 64 = .ok (.iload_n 3, 1) := by decide +kernel
theorem dX11_nextOf_65 : decode cX11_nextOf 65 = .ok (.ireturn, 1) := by decide +kernel
theorem dX11_travel_0 : decode cX11_travel 0 = .ok (.iconst 0, 1) := by decide +kernel
theorem dX11_travel_1 : decode cX11_travel 1 = .ok (.istore_n 3, 1) := by decide +kernel
theorem dX11_travel_2 : decode cX11_travel 2 = .ok (.iload_n 3, 1) := by decide +kernel
theorem dX11_travel_3 : decode cX11_travel 3 = .ok (.aload_n 0, 1) := by decide +kernel
theorem dX11_travel_4 : decode cX11_travel 4 = .ok (.getfield 400, 3) := by decide +kernel
theorem dX11_travel_7 : decode cX11_travel 7 = .ok (.if_icmp .ge 78, 3) := by decide +kernel
theorem dX11_travel_10 : decode cX11_travel 10 = .ok (.iload_n 2, 1) := by decide +kernel
theorem dX11_travel_11 : decode cX11_travel 11 = .ok (.iload_n 3, 1) := by decide +kernel
theorem dX11_travel_12 : decode cX11_travel 12 = .ok (.ishr, 1) := by decide +kernel
theorem dX11_travel_13 : decode cX11_travel 13 = .ok (.iconst 1, 1) := by decide +kernel
theorem dX11_travel_14 : decode cX11_travel 14 = .ok (.iand, 1) := by decide +kernel
theorem dX11_travel_15 : decode cX11_travel 15 = .ok (.ifCond .ne 6, 3) := by decide +kernel
theorem dX11_travel_18 : decode cX11_travel 18 = .ok (.goto 61, 3) := by decide +kernel
theorem dX11_travel_21 : decode cX11_travel 21 = .ok (.aload_n 0, 1) := by decide +kernel
theorem dX11_travel_22 : decode cX11_travel 22 = .ok (.iload_n 1, 1) := by decide +kernel
theorem dX11_travel_23 : decode cX11_travel 23 = .ok (.iload_n 3, 1) := by decide +kernel
theorem dX11_travel_24 : decode cX11_travel 24 = .ok (.invokevirtual 419, 3) := by decide +kernel
theorem dX11_travel_27 : decode cX11_travel 27 = .ok (.ifCond .ne 7, 3) := by decide +kernel
theorem dX11_travel_30 : decode cX11_travel 30 = .ok (.ldc_w 422, 3) := by decide +kernel
theorem dX11_travel_33 : decode cX11_travel 33 = .ok (.ireturn, 1) := by decide +kernel
theorem dX11_travel_34 : decode cX11_travel 34 = .ok (.iconst 0, 1) := by decide +kernel
theorem dX11_travel_35 : decode cX11_travel 35 = .ok (.istore 4, 2) := by decide +kernel
theorem dX11_travel_37 : decode cX11_travel 37 = .ok (.iload 4, 2) := by decide +kernel
theorem dX11_travel_39 : decode cX11_travel 39 = .ok (.iload_n 3, 1) := by decide +kernel
theorem dX11_travel_40 : decode cX11_travel 40 = .ok (.if_icmp .ge 39, 3) := by decide +kernel
theorem dX11_travel_43 : decode cX11_travel 43 = .ok (.iload_n 2, 1) := by decide +kernel
theorem dX11_travel_44 : decode cX11_travel 44 = .ok (.iload 4, 2) := by decide +kernel
theorem dX11_travel_46 : decode cX11_travel 46 = .ok (.ishr, 1) := by decide +kernel
theorem dX11_travel_47 : decode cX11_travel 47 = .ok (.iconst 1, 1) := by decide +kernel
theorem dX11_travel_48 : decode cX11_travel 48 = .ok (.iand, 1) := by decide +kernel
theorem dX11_travel_49 : decode cX11_travel 49 = .ok (.iconst 1, 1) := by decide +kernel
theorem dX11_travel_50 : decode cX11_travel 50 = .ok (.if_icmp .ne 23, 3) := by decide +kernel
theorem dX11_travel_53 : decode cX11_travel 53 = .ok (.aload_n 0, 1) := by decide +kernel
theorem dX11_travel_54 : decode cX11_travel 54 = .ok (.getfield 227, 3) := by decide +kernel
theorem dX11_travel_57 : decode cX11_travel 57 = .ok (.iload 4, 2) := by decide +kernel
theorem dX11_travel_59 : decode cX11_travel 59 = .ok (.iaload, 1) := by decide +kernel
theorem dX11_travel_60 : decode cX11_travel 60 = .ok (.aload_n 0, 1) := by decide +kernel
theorem dX11_travel_61 : decode cX11_travel 61 = .ok (.getfield 227, 3) := by decide +kernel
theorem dX11_travel_64 : decode cX11_travel 64 = .ok (.iload_n 3, 1) := by decide +kernel
theorem dX11_travel_65 : decode cX11_travel 65 = .ok (.iaload, 1) := by decide +kernel
theorem dX11_travel_66 : decode cX11_travel 66 = .ok (.if_icmp .ne 7, 3) := by decide +kernel
theorem dX11_travel_69 : decode cX11_travel 69 = .ok (.ldc_w 422, 3) := by decide +kernel
theorem dX11_travel_72 : decode cX11_travel 72 = .ok (.ireturn, 1) := by decide +kernel
theorem dX11_travel_73 : decode cX11_travel 73 = .ok (.iinc 4 1, 3) := by decide +kernel
theorem dX11_travel_76 : decode cX11_travel 76 = .ok (.goto (-39), 3) := by decide +kernel
theorem dX11_travel_79 : decode cX11_travel 79 = .ok (.iinc 3 1, 3) := by decide +kernel
theorem dX11_travel_82 : decode cX11_travel 82 = .ok (.goto (-80), 3) := by decide +kernel
theorem dX11_travel_85 : decode cX11_travel 85 = .ok (.aload_n 0, 1) := by decide +kernel
theorem dX11_travel_86 : decode cX11_travel 86 = .ok (.getfield 218, 3) := by decide +kernel
theorem dX11_travel_89 : decode cX11_travel 89 = .ok (.iload_n 1, 1) := by decide +kernel
theorem dX11_travel_90 : decode cX11_travel 90 = .ok (.iaload, 1) := by decide +kernel
theorem dX11_travel_91 : decode cX11_travel 91 = .ok (.istore_n 3, 1) := by decide +kernel
theorem dX11_travel_92 : decode cX11_travel 92 = .ok (.iconst 0, 1) := by decide +kernel
theorem dX11_travel_93 : decode cX11_travel 93 = .ok (.istore 4, 2) := by decide +kernel
theorem dX11_travel_95 : decode cX11_travel 95 = .ok (.iconst (-1), 1) := by decide +kernel
theorem dX11_travel_96 : decode cX11_travel 96 = .ok (.istore 5, 2) := by decide +kernel
theorem dX11_travel_98 : decode cX11_travel 98 = .ok (.aload_n 0, 1) := by decide +kernel
theorem dX11_travel_99 : decode cX11_travel 99 = .ok (.iload_n 2, 1) := by decide +kernel
theorem dX11_travel_100 : decode cX11_travel 100 = .ok (.iconst 0, 1) := by decide +kernel
theorem dX11_travel_101 : decode cX11_travel 101 = .ok (.invokevirtual 423, 3) := by decide +kernel
theorem dX11_travel_104 : decode cX11_travel 104 = .ok (.istore 6, 2) := by decide +kernel
theorem dX11_travel_106 : decode cX11_travel 106 = .ok (.iload 6, 2) := by decide +kernel
theorem dX11_travel_108 : decode cX11_travel 108 = .ok (.ifCond .lt 103, 3) := by decide +kernel
theorem dX11_travel_111 : decode cX11_travel 111 = .ok (.iload 5, 2) := by decide +kernel
theorem dX11_travel_113 : decode cX11_travel 113 = .ok (.ifCond .lt 45, 3) := by decide +kernel
theorem dX11_travel_116 : decode cX11_travel 116 = .ok (.aload_n 0, 1) := by decide +kernel
theorem dX11_travel_117 : decode cX11_travel 117 = .ok (.getfield 227, 3) := by decide +kernel
theorem dX11_travel_120 : decode cX11_travel 120 = .ok (.iload 6, 2) := by decide +kernel
theorem dX11_travel_122 : decode cX11_travel 122 = .ok (.iaload, 1) := by decide +kernel
theorem dX11_travel_123 : decode cX11_travel 123 = .ok (.iload 5, 2) := by decide +kernel
theorem dX11_travel_125 : decode cX11_travel 125 = .ok (.iconst 1, 1) := by decide +kernel
theorem dX11_travel_126 : decode cX11_travel 126 = .ok (.iadd, 1) := by decide +kernel
theorem dX11_travel_127 : decode cX11_travel 127 = .ok (.if_icmp .le 31, 3) := by decide +kernel
theorem dX11_travel_130 : decode cX11_travel 130 = .ok (.iload 4, 2) := by decide +kernel
theorem dX11_travel_132 : decode cX11_travel 132 = .ok (.aload_n 0, 1) := by decide +kernel
theorem dX11_travel_133 : decode cX11_travel 133 = .ok (.getfield 215, 3) := by decide +kernel
theorem dX11_travel_136 : decode cX11_travel 136 = .ok (.bipush 8, 2) := by decide +kernel
theorem dX11_travel_138 : decode cX11_travel 138 = .ok (.iload_n 3, 1) := by decide +kernel
theorem dX11_travel_139 : decode cX11_travel 139 = .ok (.imul, 1) := by decide +kernel
theorem dX11_travel_140 : decode cX11_travel 140 = .ok (.aload_n 0, 1) := by decide +kernel
theorem dX11_travel_141 : decode cX11_travel 141 = .ok (.getfield 218, 3) := by decide +kernel
theorem dX11_travel_144 : decode cX11_travel 144 = .ok (.iload_n 1, 1) := by decide +kernel
theorem dX11_travel_145 : decode cX11_travel 145 = .ok (.iaload, 1) := by decide +kernel
theorem dX11_travel_146 : decode cX11_travel 146 = .ok (.iadd, 1) := by decide +kernel
theorem dX11_travel_147 : decode cX11_travel 147 = .ok (.iaload, 1) := by decide +kernel
theorem dX11_travel_148 : decode cX11_travel 148 = .ok (.iadd, 1) := by decide +kernel
theorem dX11_travel_149 : decode cX11_travel 149 = .ok (.istore 4, 2) := by decide +kernel
theorem dX11_travel_151 : decode cX11_travel 151 = .ok (.aload_n 0, 1) := by decide +kernel
theorem dX11_travel_152 : decode cX11_travel 152 = .ok (.getfield 218, 3) := by decide +kernel
theorem dX11_travel_155 : decode cX11_travel 155 = .ok (.iload_n 1, 1) := by decide +kernel
theorem dX11_travel_156 : decode cX11_travel 156 = .ok (.iaload, 1) := by decide +kernel
theorem dX11_travel_157 : decode cX11_travel 157 = .ok (.istore_n 3, 1) := by decide +kernel
theorem dX11_travel_158 : decode cX11_travel 158 = .ok (.iload 4, 2) := by decide +kernel
theorem dX11_travel_160 : decode cX11_travel 160 = .ok (.aload_n 0, 1) := by decide +kernel
theorem dX11_travel_161 : decode cX11_travel 161 = .ok (.getfield 215, 3) := by decide +kernel
theorem dX11_travel_164 : decode cX11_travel 164 = .ok (.bipush 8, 2) := by decide +kernel
theorem dX11_travel_166 : decode cX11_travel 166 = .ok (.iload_n 3, 1) := by decide +kernel
theorem dX11_travel_167 : decode cX11_travel 167 = .ok (.imul, 1) := by decide +kernel
theorem dX11_travel_168 : decode cX11_travel 168 = .ok (.aload_n 0, 1) := by decide +kernel
theorem dX11_travel_169 : decode cX11_travel 169 = .ok (.getfield 224, 3) := by decide +kernel
theorem dX11_travel_172 : decode cX11_travel 172 = .ok (.iload 6, 2) := by decide +kernel
theorem dX11_travel_174 : decode cX11_travel 174 = .ok (.iaload, 1) := by decide +kernel
theorem dX11_travel_175 : decode cX11_travel 175 = .ok (.iadd, 1) := by decide +kernel
theorem dX11_travel_176 : decode cX11_travel 176 = .ok (.iaload, 1) := by decide +kernel
theorem dX11_travel_177 : decode cX11_travel 177 = .ok (.iadd, 1) := by decide +kernel
theorem dX11_travel_178 : decode cX11_travel 178 = .ok (.istore 4, 2) := by decide +kernel
theorem dX11_travel_180 : decode cX11_travel 180 = .ok (.aload_n 0, 1) := by decide +kernel
theorem dX11_travel_181 : decode cX11_travel 181 = .ok (.getfield 224, 3) := by decide +kernel
theorem dX11_travel_184 : decode cX11_travel 184 = .ok (.iload 6, 2) := by decide +kernel
theorem dX11_travel_186 : decode cX11_travel 186 = .ok (.iaload, 1) := by decide +kernel
theorem dX11_travel_187 : decode cX11_travel 187 = .ok (.istore_n 3, 1) := by decide +kernel
theorem dX11_travel_188 : decode cX11_travel 188 = .ok (.aload_n 0, 1) := by decide +kernel
theorem dX11_travel_189 : decode cX11_travel 189 = .ok (.getfield 227, 3) := by decide +kernel
theorem dX11_travel_192 : decode cX11_travel 192 = .ok (.iload 6, 2) := by decide +kernel
theorem dX11_travel_194 : decode cX11_travel 194 = .ok (.iaload, 1) := by decide +kernel
theorem dX11_travel_195 : decode cX11_travel 195 = .ok (.istore 5, 2) := by decide +kernel
theorem dX11_travel_197 : decode cX11_travel 197 = .ok (.aload_n 0, 1) := by decide +kernel
theorem dX11_travel_198 : decode cX11_travel 198 = .ok (.iload_n 2, 1) := by decide +kernel
theorem dX11_travel_199 : decode cX11_travel 199 = .ok (.iload 5, 2) := by decide +kernel
theorem dX11_travel_201 : decode cX11_travel 201 = .ok (.iconst 1, 1) := by decide +kernel
theorem dX11_travel_202 : decode cX11_travel 202 = .ok (.iadd, 1) := by decide +kernel
theorem dX11_travel_203 : decode cX11_travel 203 = .ok (.invokevirtual 423, 3) := by decide +kernel
theorem dX11_travel_206 : decode cX11_travel 206 = .ok (.istore 6, 2) := by decide +kernel
theorem dX11_travel_208 : decode cX11_travel 208 = .ok (.goto (-102), 3) := by decide +kernel
theorem dX11_travel_211 : decode cX11_travel 211 = .ok (.iload 4, 2) := by decide +kernel
theorem dX11_travel_213 : decode cX11_travel 213 = .ok (.aload_n 0, 1) := by decide +kernel
theorem dX11_travel_214 : decode cX11_travel 214 = .ok (.getfield 215, 3) := by decide +kernel
theorem dX11_travel_217 : decode cX11_travel 217 = .ok (.bipush 8, 2) := by decide +kernel
theorem dX11_travel_219 : decode cX11_travel 219 = .ok (.iload_n 3, 1) := by decide +kernel
theorem dX11_travel_220 : decode cX11_travel 220 = .ok (.imul, 1) := by decide +kernel
theorem dX11_travel_221 : decode cX11_travel 221 = .ok (.aload_n 0, 1) := by decide +kernel
theorem dX11_travel_222 : decode cX11_travel 222 = .ok (.getfield 218, 3) := by decide +kernel
theorem dX11_travel_225 : decode cX11_travel 225 = .ok (.iload_n 1, 1) := by decide +kernel
theorem dX11_travel_226 : decode cX11_travel 226 = .ok (.iaload, 1) := by decide +kernel
theorem dX11_travel_227 : decode cX11_travel 227 = .ok (.iadd, 1) := by decide +kernel
theorem dX11_travel_228 : decode cX11_travel 228 = .ok (.iaload, 1) := by decide +kernel
theorem dX11_travel_229 : decode cX11_travel 229 = .ok (.iadd, 1) := by decide +kernel
theorem dX11_travel_230 : decode cX11_travel 230 = .ok (.ireturn, 1) := by decide +kernel
theorem dX11_agrees_0 : decode cX11_agrees 0 = .ok (.iconst 0, 1) := by decide +kernel
theorem dX11_agrees_1 : decode cX11_agrees 1 = .ok (.istore_n 3, 1) := by decide +kernel
theorem dX11_agrees_2 : decode cX11_agrees 2 = .ok (.iload_n 3, 1) := by decide +kernel
theorem dX11_agrees_3 : decode cX11_agrees 3 = .ok (.aload_n 0, 1) := by decide +kernel
theorem dX11_agrees_4 : decode cX11_agrees 4 = .ok (.getfield 400, 3) := by decide +kernel
theorem dX11_agrees_7 : decode cX11_agrees 7 = .ok (.if_icmp .ge 52, 3) := by decide +kernel
theorem dX11_agrees_10 : decode cX11_agrees 10 = .ok (.aload_n 0, 1) := by decide +kernel
theorem dX11_agrees_11 : decode cX11_agrees 11 = .ok (.getfield 236, 3) := by decide +kernel
theorem dX11_agrees_14 : decode cX11_agrees 14 = .ok (.iload_n 3, 1) := by decide +kernel
theorem dX11_agrees_15 : decode cX11_agrees 15 = .ok (.iaload, 1) := by decide +kernel
theorem dX11_agrees_16 : decode cX11_agrees 16 = .ok (.ifCond .lt 37, 3) := by decide +kernel
theorem dX11_agrees_19 : decode cX11_agrees 19 = .ok (.aload_n 0, 1) := by decide +kernel
theorem dX11_agrees_20 : decode cX11_agrees 20 = .ok (.getfield 236, 3) := by decide +kernel
theorem dX11_agrees_23 : decode cX11_agrees 23 = .ok (.iload_n 3, 1) := by decide +kernel
theorem dX11_agrees_24 : decode cX11_agrees 24 = .ok (.iaload, 1) := by decide +kernel
theorem dX11_agrees_25 : decode cX11_agrees 25 = .ok (.iload_n 1, 1) := by decide +kernel
theorem dX11_agrees_26 : decode cX11_agrees 26 = .ok (.if_icmp .ne 7, 3) := by decide +kernel
theorem dX11_agrees_29 : decode cX11_agrees 29 = .ok (.iconst 1, 1) := by decide +kernel
theorem dX11_agrees_30 : decode cX11_agrees 30 = .ok (.goto 4, 3) := by decide +kernel
theorem dX11_agrees_33 : decode cX11_agrees 33 = .ok (.iconst 0, 1) := by decide +kernel
theorem dX11_agrees_34 : decode cX11_agrees 34 = .ok (.iload_n 2, 1) := by decide +kernel
theorem dX11_agrees_35 : decode cX11_agrees 35 = .ok (.iload_n 3, 1) := by decide +kernel
theorem dX11_agrees_36 : decode cX11_agrees 36 = .ok (.ishr, 1) := by decide +kernel
theorem dX11_agrees_37 : decode cX11_agrees 37 = .ok (.iconst 1, 1) := by decide +kernel
theorem dX11_agrees_38 : decode cX11_agrees 38 = .ok (.iand, 1) := by decide +kernel
theorem dX11_agrees_39 : decode cX11_agrees 39 = .ok (.iconst 1, 1) := by decide +kernel
theorem dX11_agrees_40 : decode cX11_agrees 40 = .ok (.if_icmp .ne 7, 3) := by decide +kernel
theorem dX11_agrees_43 : decode cX11_agrees 43 = .ok (.iconst 1, 1) := by decide +kernel
theorem dX11_agrees_44 : decode cX11_agrees 44 = .ok (.goto 4, 3) := by decide +kernel
theorem dX11_agrees_47 : decode cX11_agrees 47 = .ok (.iconst 0, 1) := by decide +kernel
theorem dX11_agrees_48 : decode cX11_agrees 48 = .ok (.if_icmp .eq 5, 3) := by decide +kernel
theorem dX11_agrees_51 : decode cX11_agrees 51 = .ok (.iconst 0, 1) := by decide +kernel
theorem dX11_agrees_52 : decode cX11_agrees 52 = .ok (.ireturn, 1) := by decide +kernel
theorem dX11_agrees_53 : decode cX11_agrees 53 = .ok (.iinc 3 1, 3) := by decide +kernel
theorem dX11_agrees_56 : decode cX11_agrees 56 = .ok (.goto (-54), 3) := by decide +kernel
theorem dX11_agrees_59 : decode cX11_agrees 59 = .ok (.iconst 1, 1) := by decide +kernel
theorem dX11_agrees_60 : decode cX11_agrees 60 = .ok (.ireturn, 1) := by decide +kernel
theorem dX11_solve_0 : decode cX11_solve 0 = .ok (.iconst 1, 1) := by decide +kernel
theorem dX11_solve_1 : decode cX11_solve 1 = .ok (.aload_n 0, 1) := by decide +kernel
theorem dX11_solve_2 : decode cX11_solve 2 = .ok (.getfield 400, 3) := by decide +kernel
theorem dX11_solve_5 : decode cX11_solve 5 = .ok (.ishl, 1) := by decide +kernel
theorem dX11_solve_6 : decode cX11_solve 6 = .ok (.istore_n 1, 1) := by decide +kernel
theorem dX11_solve_7 : decode cX11_solve 7 = .ok (.iconst 0, 1) := by decide +kernel
theorem dX11_solve_8 : decode cX11_solve 8 = .ok (.istore_n 2, 1) := by decide +kernel
theorem dX11_solve_9 : decode cX11_solve 9 = .ok (.iload_n 2, 1) := by decide +kernel
theorem dX11_solve_10 : decode cX11_solve 10 = .ok (.iload_n 1, 1) := by decide +kernel
theorem dX11_solve_11 : decode cX11_solve 11 = .ok (.if_icmp .ge 26, 3) := by decide +kernel
theorem dX11_solve_14 : decode cX11_solve 14 = .ok (.aload_n 0, 1) := by decide +kernel
theorem dX11_solve_15 : decode cX11_solve 15 = .ok (.getfield 233, 3) := by decide +kernel
theorem dX11_solve_18 : decode cX11_solve 18 = .ok (.iload_n 2, 1) := by decide +kernel
theorem dX11_solve_19 : decode cX11_solve 19 = .ok (.iload_n 2, 1) := by decide +kernel
theorem dX11_solve_20 : decode cX11_solve 20 = .ok (.ifCond .ne 7, 3) := by decide +kernel
theorem dX11_solve_23 : decode cX11_solve 23 = .ok (.iconst 0, 1) := by decide +kernel
theorem dX11_solve_24 : decode cX11_solve 24 = .ok (.goto 6, 3) := by decide +kernel
theorem dX11_solve_27 : decode cX11_solve 27 = .ok (.ldc_w 422, 3) := by decide +kernel
theorem dX11_solve_30 : decode cX11_solve 30 = .ok (.iastore, 1) := by decide +kernel
theorem dX11_solve_31 : decode cX11_solve 31 = .ok (.iinc 2 1, 3) := by decide +kernel
theorem dX11_solve_34 : decode cX11_solve 34 = .ok (.goto (-25), 3) := by decide +kernel
theorem dX11_solve_37 : decode cX11_solve 37 = .ok (.iconst 0, 1) := by decide +kernel
theorem dX11_solve_38 : decode cX11_solve 38 = .ok (.istore_n 2, 1) := by decide +kernel
theorem dX11_solve_39 : decode cX11_solve 39 = .ok (.iload_n 2, 1) := by decide +kernel
theorem dX11_solve_40 : decode cX11_solve 40 = .ok (.aload_n 0, 1) := by decide +kernel
theorem dX11_solve_41 : decode cX11_solve 41 = .ok (.getfield 357, 3) := by decide +kernel
theorem dX11_solve_44 : decode cX11_solve 44 = .ok (.if_icmp .ge 190, 3) := by decide +kernel
theorem dX11_solve_47 : decode cX11_solve 47 = .ok (.iconst 0, 1) := by decide +kernel
theorem dX11_solve_48 : decode cX11_solve 48 = .ok (.istore_n 3, 1) := by decide +kernel
theorem dX11_solve_49 : decode cX11_solve 49 = .ok (.iload_n 3, 1) := by decide +kernel
theorem dX11_solve_50 : decode cX11_solve 50 = .ok (.iload_n 1, 1) := by decide +kernel
theorem dX11_solve_51 : decode cX11_solve 51 = .ok (.if_icmp .ge 26, 3) := by decide +kernel
theorem dX11_solve_54 : decode cX11_solve 54 = .ok (.aload_n 0, 1) := by decide +kernel
theorem dX11_solve_55 : decode cX11_solve 55 = .ok (.getfield 233, 3) := by decide +kernel
theorem dX11_solve_58 : decode cX11_solve 58 = .ok (.sipush 512, 3) := by decide +kernel
theorem dX11_solve_61 : decode cX11_solve 61 = .ok (.iload_n 2, 1) := by decide +kernel
theorem dX11_solve_62 : decode cX11_solve 62 = .ok (.iconst 1, 1) := by decide +kernel
theorem dX11_solve_63 : decode cX11_solve 63 = .ok (.iadd, 1) := by decide +kernel
theorem dX11_solve_64 : decode cX11_solve 64 = .ok (.imul, 1) := by decide +kernel
theorem dX11_solve_65 : decode cX11_solve 65 = .ok (.iload_n 3, 1) := by decide +kernel
theorem dX11_solve_66 : decode cX11_solve 66 = .ok (.iadd, 1) := by decide +kernel
theorem dX11_solve_67 : decode cX11_solve 67 = .ok (.ldc_w 422, 3) := by decide +kernel
theorem dX11_solve_70 : decode cX11_solve 70 = .ok (.iastore, 1) := by decide +kernel
theorem dX11_solve_71 : decode cX11_solve 71 = .ok (.iinc 3 1, 3) := by decide +kernel
theorem dX11_solve_74 : decode cX11_solve 74 = .ok (.goto (-25), 3) := by decide +kernel
theorem dX11_solve_77 : decode cX11_solve 77 = .ok (.iconst 0, 1) := by decide +kernel
theorem dX11_solve_78 : decode cX11_solve 78 = .ok (.istore_n 3, 1) := by decide +kernel
theorem dX11_solve_79 : decode cX11_solve 79 = .ok (.iload_n 3, 1) := by decide +kernel
theorem dX11_solve_80 : decode cX11_solve 80 = .ok (.iload_n 1, 1) := by decide +kernel
theorem dX11_solve_81 : decode cX11_solve 81 = .ok (.if_icmp .ge 147, 3) := by decide +kernel
theorem dX11_solve_84 : decode cX11_solve 84 = .ok (.aload_n 0, 1) := by decide +kernel
theorem dX11_solve_85 : decode cX11_solve 85 = .ok (.getfield 230, 3) := by decide +kernel
theorem dX11_solve_88 : decode cX11_solve 88 = .ok (.sipush 512, 3) := by decide +kernel
theorem dX11_solve_91 : decode cX11_solve 91 = .ok (.iload_n 2, 1) := by decide +kernel
theorem dX11_solve_92 : decode cX11_solve 92 = .ok (.imul, 1) := by decide +kernel
theorem dX11_solve_93 : decode cX11_solve 93 = .ok (.iload_n 3, 1) := by decide +kernel
theorem dX11_solve_94 : decode cX11_solve 94 = .ok (.iadd, 1) := by decide +kernel
theorem dX11_solve_95 : decode cX11_solve 95 = .ok (.iaload, 1) := by decide +kernel
theorem dX11_solve_96 : decode cX11_solve 96 = .ok (.ldc_w 422, 3) := by decide +kernel
theorem dX11_solve_99 : decode cX11_solve 99 = .ok (.if_icmp .ge 123, 3) := by decide +kernel
theorem dX11_solve_102 : decode cX11_solve 102 = .ok (.aload_n 0, 1) := by decide +kernel
theorem dX11_solve_103 : decode cX11_solve 103 = .ok (.iload_n 2, 1) := by decide +kernel
theorem dX11_solve_104 : decode cX11_solve 104 = .ok (.iload_n 3, 1) := by decide +kernel
theorem dX11_solve_105 : decode cX11_solve 105 = .ok (.invokevirtual 426, 3) := by decide +kernel
theorem dX11_solve_108 : decode cX11_solve 108 = .ok (.ifCond .ne 6, 3) := by decide +kernel
theorem dX11_solve_111 : decode cX11_solve 111 = .ok (.goto 111, 3) := by decide +kernel
theorem dX11_solve_114 : decode cX11_solve 114 = .ok (.iload_n 1, 1) := by decide +kernel
theorem dX11_solve_115 : decode cX11_solve 115 = .ok (.iconst 1, 1) := by decide +kernel
theorem dX11_solve_116 : decode cX11_solve 116 = .ok (.isub, 1) := by decide +kernel
theorem dX11_solve_117 : decode cX11_solve 117 = .ok (.iload_n 3, 1) := by decide +kernel
theorem dX11_solve_118 : decode cX11_solve 118 = .ok (.iconst (-1), 1) := by decide +kernel
theorem dX11_solve_119 : decode cX11_solve 119 = .ok (.ixor, 1) := by decide +kernel
theorem dX11_solve_120 : decode cX11_solve 120 = .ok (.iand, 1) := by decide +kernel
theorem dX11_solve_121 : decode cX11_solve 121 = .ok (.istore 4, 2) := by decide +kernel
theorem dX11_solve_123 : decode cX11_solve 123 = .ok (.iload 4, 2) := by decide +kernel
theorem dX11_solve_125 : decode cX11_solve 125 = .ok (.istore 5, 2) := by decide +kernel
theorem dX11_solve_127 : decode cX11_solve 127 = .ok (.iload 5, 2) := by decide +kernel
theorem dX11_solve_129 : decode cX11_solve 129 = .ok (.ifCond .lt 93, 3) := by decide +kernel
theorem dX11_solve_132 : decode cX11_solve 132 = .ok (.aload_n 0, 1) := by decide +kernel
theorem dX11_solve_133 : decode cX11_solve 133 = .ok (.getfield 233, 3) := by decide +kernel
theorem dX11_solve_136 : decode cX11_solve 136 = .ok (.sipush 512, 3) := by decide +kernel
theorem dX11_solve_139 : decode cX11_solve 139 = .ok (.iload_n 2, 1) := by decide +kernel
theorem dX11_solve_140 : decode cX11_solve 140 = .ok (.imul, 1) := by decide +kernel
theorem dX11_solve_141 : decode cX11_solve 141 = .ok (.iload 5, 2) := by decide +kernel
theorem dX11_solve_143 : decode cX11_solve 143 = .ok (.iadd, 1) := by decide +kernel
theorem dX11_solve_144 : decode cX11_solve 144 = .ok (.iaload, 1) := by decide +kernel
theorem dX11_solve_145 : decode cX11_solve 145 = .ok (.aload_n 0, 1) := by decide +kernel
theorem dX11_solve_146 : decode cX11_solve 146 = .ok (.getfield 230, 3) := by decide +kernel
theorem dX11_solve_149 : decode cX11_solve 149 = .ok (.sipush 512, 3) := by decide +kernel
theorem dX11_solve_152 : decode cX11_solve 152 = .ok (.iload_n 2, 1) := by decide +kernel
theorem dX11_solve_153 : decode cX11_solve 153 = .ok (.imul, 1) := by decide +kernel
theorem dX11_solve_154 : decode cX11_solve 154 = .ok (.iload_n 3, 1) := by decide +kernel
theorem dX11_solve_155 : decode cX11_solve 155 = .ok (.iadd, 1) := by decide +kernel
theorem dX11_solve_156 : decode cX11_solve 156 = .ok (.iaload, 1) := by decide +kernel
theorem dX11_solve_157 : decode cX11_solve 157 = .ok (.iadd, 1) := by decide +kernel
theorem dX11_solve_158 : decode cX11_solve 158 = .ok (.istore 6, 2) := by decide +kernel
theorem dX11_solve_160 : decode cX11_solve 160 = .ok (.iload 6, 2) := by decide +kernel
theorem dX11_solve_162 : decode cX11_solve 162 = .ok (.aload_n 0, 1) := by decide +kernel
theorem dX11_solve_163 : decode cX11_solve 163 = .ok (.getfield 233, 3) := by decide +kernel
theorem dX11_solve_166 : decode cX11_solve 166 = .ok (.sipush 512, 3) := by decide +kernel
theorem dX11_solve_169 : decode cX11_solve 169 = .ok (.iload_n 2, 1) := by decide +kernel
theorem dX11_solve_170 : decode cX11_solve 170 = .ok (.iconst 1, 1) := by decide +kernel
theorem dX11_solve_171 : decode cX11_solve 171 = .ok (.iadd, 1) := by decide +kernel
theorem dX11_solve_172 : decode cX11_solve 172 = .ok (.imul, 1) := by decide +kernel
theorem dX11_solve_173 : decode cX11_solve 173 = .ok (.iload 5, 2) := by decide +kernel
theorem dX11_solve_175 : decode cX11_solve 175 = .ok (.iload_n 3, 1) := by decide +kernel
theorem dX11_solve_176 : decode cX11_solve 176 = .ok (.ior, 1) := by decide +kernel
theorem dX11_solve_177 : decode cX11_solve 177 = .ok (.iadd, 1) := by decide +kernel
theorem dX11_solve_178 : decode cX11_solve 178 = .ok (.iaload, 1) := by decide +kernel
theorem dX11_solve_179 : decode cX11_solve 179 = .ok (.if_icmp .ge 22, 3) := by decide +kernel
theorem dX11_solve_182 : decode cX11_solve 182 = .ok (.aload_n 0, 1) := by decide +kernel
theorem dX11_solve_183 : decode cX11_solve 183 = .ok (.getfield 233, 3) := by decide +kernel
theorem dX11_solve_186 : decode cX11_solve 186 = .ok (.sipush 512, 3) := by decide +kernel
theorem dX11_solve_189 : decode cX11_solve 189 = .ok (.iload_n 2, 1) := by decide +kernel
theorem dX11_solve_190 : decode cX11_solve 190 = .ok (.iconst 1, 1) := by decide +kernel
theorem dX11_solve_191 : decode cX11_solve 191 = .ok (.iadd, 1) := by decide +kernel
theorem dX11_solve_192 : decode cX11_solve 192 = .ok (.imul, 1) := by decide +kernel
theorem dX11_solve_193 : decode cX11_solve 193 = .ok (.iload 5, 2) := by decide +kernel
theorem dX11_solve_195 : decode cX11_solve 195 = .ok (.iload_n 3, 1) := by decide +kernel
theorem dX11_solve_196 : decode cX11_solve 196 = .ok (.ior, 1) := by decide +kernel
theorem dX11_solve_197 : decode cX11_solve 197 = .ok (.iadd, 1) := by decide +kernel
theorem dX11_solve_198 : decode cX11_solve 198 = .ok (.iload 6, 2) := by decide +kernel
theorem dX11_solve_200 : decode cX11_solve 200 = .ok (.iastore, 1) := by decide +kernel
theorem dX11_solve_201 : decode cX11_solve 201 = .ok (.iload 5, 2) := by decide +kernel
theorem dX11_solve_203 : decode cX11_solve 203 = .ok (.ifCond .ne 7, 3) := by decide +kernel
theorem dX11_solve_206 : decode cX11_solve 206 = .ok (.iconst (-1), 1) := by decide +kernel
theorem dX11_solve_207 : decode cX11_solve 207 = .ok (.goto 10, 3) := by decide +kernel
theorem dX11_solve_210 : decode cX11_solve 210 = .ok (.iload 5, 2) := by decide +kernel
theorem dX11_solve_212 : decode cX11_solve 212 = .ok (.iconst 1, 1) := by decide +kernel
theorem dX11_solve_213 : decode cX11_solve 213 = .ok (.isub, 1) := by decide +kernel
theorem dX11_solve_214 : decode cX11_solve 214 = .ok (.iload 4, 2) := by decide +kernel
theorem dX11_solve_216 : decode cX11_solve 216 = .ok (.iand, 1) := by decide +kernel
theorem dX11_solve_217 : decode cX11_solve 217 = .ok (.istore 5, 2) := by decide +kernel
theorem dX11_solve_219 : decode cX11_solve 219 = .ok (.goto (-92), 3) := by decide +kernel
theorem dX11_solve_222 : decode cX11_solve 222 = .ok (.iinc 3 1, 3) := by decide +kernel
theorem dX11_solve_225 : decode cX11_solve 225 = .ok (.goto (-146), 3) := by decide +kernel
theorem dX11_solve_228 : decode cX11_solve 228 = .ok (.iinc 2 1, 3) := by decide +kernel
theorem dX11_solve_231 : decode cX11_solve 231 = .ok (.goto (-192), 3) := by decide +kernel
theorem dX11_solve_234 : decode cX11_solve 234 = .ok (.aload_n 0, 1) := by decide +kernel
theorem dX11_solve_235 : decode cX11_solve 235 = .ok (.getfield 233, 3) := by decide +kernel
theorem dX11_solve_238 : decode cX11_solve 238 = .ok (.sipush 512, 3) := by decide +kernel
theorem dX11_solve_241 : decode cX11_solve 241 = .ok (.aload_n 0, 1) := by decide +kernel
theorem dX11_solve_242 : decode cX11_solve 242 = .ok (.getfield 357, 3) := by decide +kernel
theorem dX11_solve_245 : decode cX11_solve 245 = .ok (.imul, 1) := by decide +kernel
theorem dX11_solve_246 : decode cX11_solve 246 = .ok (.iload_n 1, 1) := by decide +kernel
theorem dX11_solve_247 : decode cX11_solve 247 = .ok (.iadd, 1) := by decide +kernel
theorem dX11_solve_248 : decode cX11_solve 248 = .ok (.iconst 1, 1) := by decide +kernel
theorem dX11_solve_249 : decode cX11_solve 249 = .ok (.isub, 1) := by decide +kernel
theorem dX11_solve_250 : decode cX11_solve 250 = .ok (.iaload, 1) := by decide +kernel
theorem dX11_solve_251 : decode cX11_solve 251 = .ok (.ireturn, 1) := by decide +kernel
theorem dX11_tour_0 : decode cX11_tour 0 = .ok (.iconst 0, 1) := by decide +kernel
theorem dX11_tour_1 : decode cX11_tour 1 = .ok (.istore_n 1, 1) := by decide +kernel
theorem dX11_tour_2 : decode cX11_tour 2 = .ok (.iload_n 1, 1) := by decide +kernel
theorem dX11_tour_3 : decode cX11_tour 3 = .ok (.aload_n 0, 1) := by decide +kernel
theorem dX11_tour_4 : decode cX11_tour 4 = .ok (.getfield 357, 3) := by decide +kernel
theorem dX11_tour_7 : decode cX11_tour 7 = .ok (.if_icmp .ge 45, 3) := by decide +kernel
theorem dX11_tour_10 : decode cX11_tour 10 = .ok (.iconst 0, 1) := by decide +kernel
theorem dX11_tour_11 : decode cX11_tour 11 = .ok (.istore_n 2, 1) := by decide +kernel
theorem dX11_tour_12 : decode cX11_tour 12 = .ok (.iload_n 2, 1) := by decide +kernel
theorem dX11_tour_13 : decode cX11_tour 13 = .ok (.iconst 1, 1) := by decide +kernel
theorem dX11_tour_14 : decode cX11_tour 14 = .ok (.aload_n 0, 1) := by decide +kernel
theorem dX11_tour_15 : decode cX11_tour 15 = .ok (.getfield 400, 3) := by decide +kernel
theorem dX11_tour_18 : decode cX11_tour 18 = .ok (.ishl, 1) := by decide +kernel
theorem dX11_tour_19 : decode cX11_tour 19 = .ok (.if_icmp .ge 27, 3) := by decide +kernel
theorem dX11_tour_22 : decode cX11_tour 22 = .ok (.aload_n 0, 1) := by decide +kernel
theorem dX11_tour_23 : decode cX11_tour 23 = .ok (.getfield 230, 3) := by decide +kernel
theorem dX11_tour_26 : decode cX11_tour 26 = .ok (.sipush 512, 3) := by decide +kernel
theorem dX11_tour_29 : decode cX11_tour 29 = .ok (.iload_n 1, 1) := by decide +kernel
theorem dX11_tour_30 : decode cX11_tour 30 = .ok (.imul, 1) := by decide +kernel
theorem dX11_tour_31 : decode cX11_tour 31 = .ok (.iload_n 2, 1) := by decide +kernel
theorem dX11_tour_32 : decode cX11_tour 32 = .ok (.iadd, 1) := by decide +kernel
theorem dX11_tour_33 : decode cX11_tour 33 = .ok (.aload_n 0, 1) := by decide +kernel
theorem dX11_tour_34 : decode cX11_tour 34 = .ok (.iload_n 1, 1) := by decide +kernel
theorem dX11_tour_35 : decode cX11_tour 35 = .ok (.iload_n 2, 1) := by decide +kernel
theorem dX11_tour_36 : decode cX11_tour 36 = .ok (.invokevirtual 429, 3) := by decide +kernel
theorem dX11_tour_39 : decode cX11_tour 39 = .ok (.iastore, 1) := by decide +kernel
theorem dX11_tour_40 : decode cX11_tour 40 = .ok (.iinc 2 1, 3) := by decide +kernel
theorem dX11_tour_43 : decode cX11_tour 43 = .ok (.goto (-31), 3) := by decide +kernel
theorem dX11_tour_46 : decode cX11_tour 46 = .ok (.iinc 1 1, 3) := by decide +kernel
theorem dX11_tour_49 : decode cX11_tour 49 = .ok (.goto (-47), 3) := by decide +kernel
theorem dX11_tour_52 : decode cX11_tour 52 = .ok (.iconst 0, 1) := by decide +kernel
theorem dX11_tour_53 : decode cX11_tour 53 = .ok (.istore_n 1, 1) := by decide +kernel
theorem dX11_tour_54 : decode cX11_tour 54 = .ok (.iload_n 1, 1) := by decide +kernel
theorem dX11_tour_55 : decode cX11_tour 55 = .ok (.bipush 9, 2) := by decide +kernel
theorem dX11_tour_57 : decode cX11_tour 57 = .ok (.if_icmp .ge 16, 3) := by decide +kernel
theorem dX11_tour_60 : decode cX11_tour 60 = .ok (.aload_n 0, 1) := by decide +kernel
theorem dX11_tour_61 : decode cX11_tour 61 = .ok (.getfield 236, 3) := by decide +kernel
theorem dX11_tour_64 : decode cX11_tour 64 = .ok (.iload_n 1, 1) := by decide +kernel
theorem dX11_tour_65 : decode cX11_tour 65 = .ok (.iconst (-1), 1) := by decide +kernel
theorem dX11_tour_66 : decode cX11_tour 66 = .ok (.iastore, 1) := by decide +kernel
theorem dX11_tour_67 : decode cX11_tour 67 = .ok (.iinc 1 1, 3) := by decide +kernel
theorem dX11_tour_70 : decode cX11_tour 70 = .ok (.goto (-16), 3) := by decide +kernel
theorem dX11_tour_73 : decode cX11_tour 73 = .ok (.aload_n 0, 1) := by decide +kernel
theorem dX11_tour_74 : decode cX11_tour 74 = .ok (.invokevirtual 432, 3) := by decide +kernel
theorem dX11_tour_77 : decode cX11_tour 77 = .ok (.istore_n 1, 1) := by decide +kernel
theorem dX11_tour_78 : decode cX11_tour 78 = .ok (.iload_n 1, 1) := by decide +kernel
theorem dX11_tour_79 : decode cX11_tour 79 = .ok (.ldc_w 422, 3) := by decide +kernel
theorem dX11_tour_82 : decode cX11_tour 82 = .ok (.if_icmp .lt 6, 3) := by decide +kernel
theorem dX11_tour_85 : decode cX11_tour 85 = .ok (.bipush (-2), 2) := by decide +kernel
theorem dX11_tour_87 : decode cX11_tour 87 = .ok (.ireturn, 1) := by decide +kernel
theorem dX11_tour_88 : decode cX11_tour 88 = .ok (.iconst 0, 1) := by decide +kernel
theorem dX11_tour_89 : decode cX11_tour 89 = .ok (.istore_n 2, 1) := by decide +kernel
theorem dX11_tour_90 : decode cX11_tour 90 = .ok (.iload_n 2, 1) := by decide +kernel
theorem dX11_tour_91 : decode cX11_tour 91 = .ok (.aload_n 0, 1) := by decide +kernel
theorem dX11_tour_92 : decode cX11_tour 92 = .ok (.getfield 400, 3) := by decide +kernel
theorem dX11_tour_95 : decode cX11_tour 95 = .ok (.if_icmp .ge 37, 3) := by decide +kernel
theorem dX11_tour_98 : decode cX11_tour 98 = .ok (.aload_n 0, 1) := by decide +kernel
theorem dX11_tour_99 : decode cX11_tour 99 = .ok (.getfield 236, 3) := by decide +kernel
theorem dX11_tour_102 : decode cX11_tour 102 = .ok (.iload_n 2, 1) := by decide +kernel
theorem dX11_tour_103 : decode cX11_tour 103 = .ok (.iconst 0, 1) := by decide +kernel
theorem dX11_tour_104 : decode cX11_tour 104 = .ok (.iastore, 1) := by decide +kernel
theorem dX11_tour_105 : decode cX11_tour 105 = .ok (.aload_n 0, 1) := by decide +kernel
theorem dX11_tour_106 : decode cX11_tour 106 = .ok (.invokevirtual 432, 3) := by decide +kernel
theorem dX11_tour_109 : decode cX11_tour 109 = .ok (.iload_n 1, 1) := by decide +kernel
theorem dX11_tour_110 : decode cX11_tour 110 = .ok (.if_icmp .eq 16, 3) := by decide +kernel
theorem dX11_tour_113 : decode cX11_tour 113 = .ok (.aload_n 0, 1) := by decide +kernel
theorem dX11_tour_114 : decode cX11_tour 114 = .ok (.getfield 236, 3) := by decide +kernel
theorem dX11_tour_117 : decode cX11_tour 117 = .ok (.iload_n 2, 1) := by decide +kernel
theorem dX11_tour_118 : decode cX11_tour 118 = .ok (.dup2, 1) := by decide +kernel
theorem dX11_tour_119 : decode cX11_tour 119 = .ok (.iaload, 1) := by decide +kernel
theorem dX11_tour_120 : decode cX11_tour 120 = .ok (.iconst 1, 1) := by decide +kernel
theorem dX11_tour_121 : decode cX11_tour 121 = .ok (.iadd, 1) := by decide +kernel
theorem dX11_tour_122 : decode cX11_tour 122 = .ok (.iastore, 1) := by decide +kernel
theorem dX11_tour_123 : decode cX11_tour 123 = .ok (.goto (-18), 3) := by decide +kernel
theorem dX11_tour_126 : decode cX11_tour 126 = .ok (.iinc 2 1, 3) := by decide +kernel
theorem dX11_tour_129 : decode cX11_tour 129 = .ok (.goto (-39), 3) := by decide +kernel
theorem dX11_tour_132 : decode cX11_tour 132 = .ok (.aload_n 0, 1) := by decide +kernel
theorem dX11_tour_133 : decode cX11_tour 133 = .ok (.aload_n 0, 1) := by decide +kernel
theorem dX11_tour_134 : decode cX11_tour 134 = .ok (.getfield 400, 3) := by decide +kernel
theorem dX11_tour_137 : decode cX11_tour 137 = .ok (.putfield 435, 3) := by decide +kernel
theorem dX11_tour_140 : decode cX11_tour 140 = .ok (.iconst 0, 1) := by decide +kernel
theorem dX11_tour_141 : decode cX11_tour 141 = .ok (.istore_n 2, 1) := by decide +kernel
theorem dX11_tour_142 : decode cX11_tour 142 = .ok (.iload_n 2, 1) := by decide +kernel
theorem dX11_tour_143 : decode cX11_tour 143 = .ok (.aload_n 0, 1) := by decide +kernel
theorem dX11_tour_144 : decode cX11_tour 144 = .ok (.getfield 400, 3) := by decide +kernel
theorem dX11_tour_147 : decode cX11_tour 147 = .ok (.if_icmp .ge 21, 3) := by decide +kernel
theorem dX11_tour_150 : decode cX11_tour 150 = .ok (.aload_n 0, 1) := by decide +kernel
theorem dX11_tour_151 : decode cX11_tour 151 = .ok (.getfield 239, 3) := by decide +kernel
theorem dX11_tour_154 : decode cX11_tour 154 = .ok (.iload_n 2, 1) := by decide +kernel
theorem dX11_tour_155 : decode cX11_tour 155 = .ok (.aload_n 0, 1) := by decide +kernel
theorem dX11_tour_156 : decode cX11_tour 156 = .ok (.getfield 236, 3) := by decide +kernel
theorem dX11_tour_159 : decode cX11_tour 159 = .ok (.iload_n 2, 1) := by decide +kernel
theorem dX11_tour_160 : decode cX11_tour 160 = .ok (.iaload, 1) := by decide +kernel
theorem dX11_tour_161 : decode cX11_tour 161 = .ok (.iastore, 1) := by decide +kernel
theorem dX11_tour_162 : decode cX11_tour 162 = .ok (.iinc 2 1, 3) := by decide +kernel
theorem dX11_tour_165 : decode cX11_tour 165 = .ok (.goto (-23), 3) := by decide +kernel
theorem dX11_tour_168 : decode cX11_tour 168 = .ok (.iload_n 1, 1) := by decide +kernel
theorem dX11_tour_169 : decode cX11_tour 169 = .ok (.ireturn, 1) := by decide +kernel
theorem dX11_toured_0 : decode cX11_toured 0 = .ok (.iload_n 1, 1) := by decide +kernel
theorem dX11_toured_1 : decode cX11_toured 1 = .ok (.ifCond .lt 11, 3) := by decide +kernel
theorem dX11_toured_4 : decode cX11_toured 4 = .ok (.iload_n 1, 1) := by decide +kernel
theorem dX11_toured_5 : decode cX11_toured 5 = .ok (.aload_n 0, 1) := by decide +kernel
theorem dX11_toured_6 : decode cX11_toured 6 = .ok (.getfield 435, 3) := by decide +kernel
theorem dX11_toured_9 : decode cX11_toured 9 = .ok (.if_icmp .lt 7, 3) := by decide +kernel
theorem dX11_toured_12 : decode cX11_toured 12 = .ok (.iconst (-1), 1) := by decide +kernel
theorem dX11_toured_13 : decode cX11_toured 13 = .ok (.goto 9, 3) := by decide +kernel
theorem dX11_toured_16 : decode cX11_toured 16 = .ok (.aload_n 0, 1) := by decide +kernel
theorem dX11_toured_17 : decode cX11_toured 17 = .ok (.getfield 239, 3) := by decide +kernel
theorem dX11_toured_20 : decode cX11_toured 20 = .ok (.iload_n 1, 1) := by decide +kernel
theorem dX11_toured_21 : decode cX11_toured 21 = .ok (.iaload, 1) := by decide +kernel
theorem dX11_toured_22 : decode cX11_toured 22 = .ok (.ireturn, 1) := by decide +kernel
theorem dX11_later_0 : decode cX11_later 0 = .ok (.iload_n 1, 1) := by decide +kernel
theorem dX11_later_1 : decode cX11_later 1 = .ok (.ifCond .lt 22, 3) := by decide +kernel
theorem dX11_later_4 : decode cX11_later 4 = .ok (.iload_n 1, 1) := by decide +kernel
theorem dX11_later_5 : decode cX11_later 5 = .ok (.sipush 1000, 3) := by decide +kernel
theorem dX11_later_8 : decode cX11_later 8 = .ok (.if_icmp .gt 15, 3) := by decide +kernel
theorem dX11_later_11 : decode cX11_later 11 = .ok (.aload_n 0, 1) := by decide +kernel
theorem dX11_later_12 : decode cX11_later 12 = .ok (.getfield 438, 3) := by decide +kernel
theorem dX11_later_15 : decode cX11_later 15 = .ok (.iload_n 1, 1) := by decide +kernel
theorem dX11_later_16 : decode cX11_later 16 = .ok (.iadd, 1) := by decide +kernel
theorem dX11_later_17 : decode cX11_later 17 = .ok (.ldc_w 441, 3) := by decide +kernel
theorem dX11_later_20 : decode cX11_later 20 = .ok (.if_icmp .le 5, 3) := by decide +kernel
theorem dX11_later_23 : decode cX11_later 23 = .ok (.iconst (-1), 1) := by decide +kernel
theorem dX11_later_24 : decode cX11_later 24 = .ok (.ireturn, 1) := by decide +kernel
theorem dX11_later_25 : decode cX11_later 25 = .ok (.aload_n 0, 1) := by decide +kernel
theorem dX11_later_26 : decode cX11_later 26 = .ok (.dup, 1) := by decide +kernel
theorem dX11_later_27 : decode cX11_later 27 = .ok (.getfield 438, 3) := by decide +kernel
theorem dX11_later_30 : decode cX11_later 30 = .ok (.iload_n 1, 1) := by decide +kernel
theorem dX11_later_31 : decode cX11_later 31 = .ok (.iadd, 1) := by decide +kernel
theorem dX11_later_32 : decode cX11_later 32 = .ok (.putfield 438, 3) := by decide +kernel
theorem dX11_later_35 : decode cX11_later 35 = .ok (.aload_n 0, 1) := by decide +kernel
theorem dX11_later_36 : decode cX11_later 36 = .ok (.getfield 438, 3) := by decide +kernel
theorem dX11_later_39 : decode cX11_later 39 = .ok (.ireturn, 1) := by decide +kernel
theorem dX11_tell_0 : decode cX11_tell 0 = .ok (.aload_n 0, 1) := by decide +kernel
theorem dX11_tell_1 : decode cX11_tell 1 = .ok (.iload_n 1, 1) := by decide +kernel
theorem dX11_tell_2 : decode cX11_tell 2 = .ok (.invokevirtual 362, 3) := by decide +kernel
theorem dX11_tell_5 : decode cX11_tell 5 = .ok (.ifCond .eq 11, 3) := by decide +kernel
theorem dX11_tell_8 : decode cX11_tell 8 = .ok (.aload_n 0, 1) := by decide +kernel
theorem dX11_tell_9 : decode cX11_tell 9 = .ok (.iload_n 1, 1) := by decide +kernel
theorem dX11_tell_10 : decode cX11_tell 10 = .ok (.invokevirtual 388, 3) := by decide +kernel
theorem dX11_tell_13 : decode cX11_tell 13 = .ok (.goto 4, 3) := by decide +kernel
theorem dX11_tell_16 : decode cX11_tell 16 = .ok (.iconst (-1), 1) := by decide +kernel
theorem dX11_tell_17 : decode cX11_tell 17 = .ok (.istore 5, 2) := by decide +kernel
theorem dX11_tell_19 : decode cX11_tell 19 = .ok (.iload 5, 2) := by decide +kernel
theorem dX11_tell_21 : decode cX11_tell 21 = .ok (.ifCond .lt 50, 3) := by decide +kernel
theorem dX11_tell_24 : decode cX11_tell 24 = .ok (.iload_n 3, 1) := by decide +kernel
theorem dX11_tell_25 : decode cX11_tell 25 = .ok (.ifCond .lt 46, 3) := by decide +kernel
theorem dX11_tell_28 : decode cX11_tell 28 = .ok (.iload_n 3, 1) := by decide +kernel
theorem dX11_tell_29 : decode cX11_tell 29 = .ok (.aload_n 0, 1) := by decide +kernel
theorem dX11_tell_30 : decode cX11_tell 30 = .ok (.getfield 127, 3) := by decide +kernel
theorem dX11_tell_33 : decode cX11_tell 33 = .ok (.iload 5, 2) := by decide +kernel
theorem dX11_tell_35 : decode cX11_tell 35 = .ok (.iaload, 1) := by decide +kernel
theorem dX11_tell_36 : decode cX11_tell 36 = .ok (.if_icmp .ge 35, 3) := by decide +kernel
theorem dX11_tell_39 : decode cX11_tell 39 = .ok (.iload 4, 2) := by decide +kernel
theorem dX11_tell_41 : decode cX11_tell 41 = .ok (.ifCond .lt 30, 3) := by decide +kernel
theorem dX11_tell_44 : decode cX11_tell 44 = .ok (.iload 4, 2) := by decide +kernel
theorem dX11_tell_46 : decode cX11_tell 46 = .ok (.aload_n 0, 1) := by decide +kernel
theorem dX11_tell_47 : decode cX11_tell 47 = .ok (.getfield 130, 3) := by decide +kernel
theorem dX11_tell_50 : decode cX11_tell 50 = .ok (.bipush 6, 2) := by decide +kernel
theorem dX11_tell_52 : decode cX11_tell 52 = .ok (.iload 5, 2) := by decide +kernel
theorem dX11_tell_54 : decode cX11_tell 54 = .ok (.imul, 1) := by decide +kernel
theorem dX11_tell_55 : decode cX11_tell 55 = .ok (.iload_n 3, 1) := by decide +kernel
theorem dX11_tell_56 : decode cX11_tell 56 = .ok (.iadd, 1) := by decide +kernel
theorem dX11_tell_57 : decode cX11_tell 57 = .ok (.iaload, 1) := by decide +kernel
theorem dX11_tell_58 : decode cX11_tell 58 = .ok (.if_icmp .gt 13, 3) := by decide +kernel
theorem dX11_tell_61 : decode cX11_tell 61 = .ok (.aload_n 0, 1) := by decide +kernel
theorem dX11_tell_62 : decode cX11_tell 62 = .ok (.getfield 409, 3) := by decide +kernel
theorem dX11_tell_65 : decode cX11_tell 65 = .ok (.sipush 200, 3) := by decide +kernel
theorem dX11_tell_68 : decode cX11_tell 68 = .ok (.if_icmp .ne 5, 3) := by decide +kernel
theorem dX11_tell_71 : decode cX11_tell 71 = .ok (.iconst (-1), 1) := by decide +kernel
theorem dX11_tell_72 : decode cX11_tell 72 = .ok (.ireturn, 1) := by decide +kernel
theorem dX11_tell_73 : decode cX11_tell 73 = .ok (.aload_n 0, 1) := by decide +kernel
theorem dX11_tell_74 : decode cX11_tell 74 = .ok (.getfield 242, 3) := by decide +kernel
theorem dX11_tell_77 : decode cX11_tell 77 = .ok (.aload_n 0, 1) := by decide +kernel
theorem dX11_tell_78 : decode cX11_tell 78 = .ok (.getfield 409, 3) := by decide +kernel
theorem dX11_tell_81 : decode cX11_tell 81 = .ok (.iload_n 1, 1) := by decide +kernel
theorem dX11_tell_82 : decode cX11_tell 82 = .ok (.iastore, 1) := by decide +kernel
theorem dX11_tell_83 : decode cX11_tell 83 = .ok (.aload_n 0, 1) := by decide +kernel
theorem dX11_tell_84 : decode cX11_tell 84 = .ok (.getfield 245, 3) := by decide +kernel
theorem dX11_tell_87 : decode cX11_tell 87 = .ok (.aload_n 0, 1) := by decide +kernel
