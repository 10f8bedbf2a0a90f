theorem dX11_tell_88 : decode cX11_tell 88 = .ok (.getfield 409, 3) := by decide +kernel
theorem dX11_tell_91 : decode cX11_tell 91 = .ok (.iload_n 2, 1) := by decide +kernel
theorem dX11_tell_92 : decode cX11_tell 92 = .ok (.iastore, 1) := by decide +kernel
theorem dX11_tell_93 : decode cX11_tell 93 = .ok (.aload_n 0, 1) := by decide +kernel
theorem dX11_tell_94 : decode cX11_tell 94 = .ok (.getfield 248, 3) := by decide +kernel
theorem dX11_tell_97 : decode cX11_tell 97 = .ok (.aload_n 0, 1) := by decide +kernel
theorem dX11_tell_98 : decode cX11_tell 98 = .ok (.getfield 409, 3) := by decide +kernel
theorem dX11_tell_101 : decode cX11_tell 101 = .ok (.iload_n 3, 1) := by decide +kernel
theorem dX11_tell_102 : decode cX11_tell 102 = .ok (.iastore, 1) := by decide +kernel
theorem dX11_tell_103 : decode cX11_tell 103 = .ok (.aload_n 0, 1) := by decide +kernel
theorem dX11_tell_104 : decode cX11_tell 104 = .ok (.getfield 251, 3) := by decide +kernel
theorem dX11_tell_107 : decode cX11_tell 107 = .ok (.aload_n 0, 1) := by decide +kernel
theorem dX11_tell_108 : decode cX11_tell 108 = .ok (.getfield 409, 3) := by decide +kernel
theorem dX11_tell_111 : decode cX11_tell 111 = .ok (.iload 4, 2) := by decide +kernel
theorem dX11_tell_113 : decode cX11_tell 113 = .ok (.iastore, 1) := by decide +kernel
theorem dX11_tell_114 : decode cX11_tell 114 = .ok (.aload_n 0, 1) := by decide +kernel
theorem dX11_tell_115 : decode cX11_tell 115 = .ok (.getfield 254, 3) := by decide +kernel
theorem dX11_tell_118 : decode cX11_tell 118 = .ok (.aload_n 0, 1) := by decide +kernel
theorem dX11_tell_119 : decode cX11_tell 119 = .ok (.getfield 409, 3) := by decide +kernel
theorem dX11_tell_122 : decode cX11_tell 122 = .ok (.aload_n 0, 1) := by decide +kernel
theorem dX11_tell_123 : decode cX11_tell 123 = .ok (.getfield 438, 3) := by decide +kernel
theorem dX11_tell_126 : decode cX11_tell 126 = .ok (.iastore, 1) := by decide +kernel
theorem dX11_tell_127 : decode cX11_tell 127 = .ok (.aload_n 0, 1) := by decide +kernel
theorem dX11_tell_128 : decode cX11_tell 128 = .ok (.getfield 257, 3) := by decide +kernel
theorem dX11_tell_131 : decode cX11_tell 131 = .ok (.aload_n 0, 1) := by decide +kernel
theorem dX11_tell_132 : decode cX11_tell 132 = .ok (.getfield 409, 3) := by decide +kernel
theorem dX11_tell_135 : decode cX11_tell 135 = .ok (.iconst (-1), 1) := by decide +kernel
theorem dX11_tell_136 : decode cX11_tell 136 = .ok (.iastore, 1) := by decide +kernel
theorem dX11_tell_137 : decode cX11_tell 137 = .ok (.aload_n 0, 1) := by decide +kernel
theorem dX11_tell_138 : decode cX11_tell 138 = .ok (.dup, 1) := by decide +kernel
theorem dX11_tell_139 : decode cX11_tell 139 = .ok (.getfield 409, 3) := by decide +kernel
theorem dX11_tell_142 : decode cX11_tell 142 = .ok (.iconst 1, 1) := by decide +kernel
theorem dX11_tell_143 : decode cX11_tell 143 = .ok (.iadd, 1) := by decide +kernel
theorem dX11_tell_144 : decode cX11_tell 144 = .ok (.putfield 409, 3) := by decide +kernel
theorem dX11_tell_147 : decode cX11_tell 147 = .ok (.aload_n 0, 1) := by decide +kernel
theorem dX11_tell_148 : decode cX11_tell 148 = .ok (.getfield 409, 3) := by decide +kernel
theorem dX11_tell_151 : decode cX11_tell 151 = .ok (.iconst 1, 1) := by decide +kernel
theorem dX11_tell_152 : decode cX11_tell 152 = .ok (.isub, 1) := by decide +kernel
theorem dX11_tell_153 : decode cX11_tell 153 = .ok (.ireturn, 1) := by decide +kernel
theorem dX11_mark_0 : decode cX11_mark 0 = .ok (.aload_n 0, 1) := by decide +kernel
theorem dX11_mark_1 : decode cX11_mark 1 = .ok (.iload_n 2, 1) := by decide +kernel
theorem dX11_mark_2 : decode cX11_mark 2 = .ok (.invokevirtual 416, 3) := by decide +kernel
theorem dX11_mark_5 : decode cX11_mark 5 = .ok (.ifCond .eq 15, 3) := by decide +kernel
theorem dX11_mark_8 : decode cX11_mark 8 = .ok (.aload_n 0, 1) := by decide +kernel
theorem dX11_mark_9 : decode cX11_mark 9 = .ok (.iload_n 1, 1) := by decide +kernel
theorem dX11_mark_10 : decode cX11_mark 10 = .ok (.iload_n 2, 1) := by decide +kernel
theorem dX11_mark_11 : decode cX11_mark 11 = .ok (.iload_n 3, 1) := by decide +kernel
theorem dX11_mark_12 : decode cX11_mark 12 = .ok (.iload 4, 2) := by decide +kernel
theorem dX11_mark_14 : decode cX11_mark 14 = .ok (.invokevirtual 442, 3) := by decide +kernel
theorem dX11_mark_17 : decode cX11_mark 17 = .ok (.goto 4, 3) := by decide +kernel
theorem dX11_mark_20 : decode cX11_mark 20 = .ok (.iconst (-1), 1) := by decide +kernel
theorem dX11_mark_21 : decode cX11_mark 21 = .ok (.ireturn, 1) := by decide +kernel
theorem dX11_appeal_0 : decode cX11_appeal 0 = .ok (.aload_n 0, 1) := by decide +kernel
theorem dX11_appeal_1 : decode cX11_appeal 1 = .ok (.iload_n 1, 1) := by decide +kernel
theorem dX11_appeal_2 : decode cX11_appeal 2 = .ok (.iload_n 2, 1) := by decide +kernel
theorem dX11_appeal_3 : decode cX11_appeal 3 = .ok (.aload_n 0, 1) := by decide +kernel
theorem dX11_appeal_4 : decode cX11_appeal 4 = .ok (.getfield 438, 3) := by decide +kernel
theorem dX11_appeal_7 : decode cX11_appeal 7 = .ok (.invokevirtual 445, 3) := by decide +kernel
theorem dX11_appeal_10 : decode cX11_appeal 10 = .ok (.ifCond .ge 7, 3) := by decide +kernel
theorem dX11_appeal_13 : decode cX11_appeal 13 = .ok (.iconst (-1), 1) := by decide +kernel
theorem dX11_appeal_14 : decode cX11_appeal 14 = .ok (.goto 11, 3) := by decide +kernel
theorem dX11_appeal_17 : decode cX11_appeal 17 = .ok (.aload_n 0, 1) := by decide +kernel
theorem dX11_appeal_18 : decode cX11_appeal 18 = .ok (.iload_n 1, 1) := by decide +kernel
theorem dX11_appeal_19 : decode cX11_appeal 19 = .ok (.iconst (-1), 1) := by decide +kernel
theorem dX11_appeal_20 : decode cX11_appeal 20 = .ok (.iload_n 2, 1) := by decide +kernel
theorem dX11_appeal_21 : decode cX11_appeal 21 = .ok (.iload_n 3, 1) := by decide +kernel
theorem dX11_appeal_22 : decode cX11_appeal 22 = .ok (.invokevirtual 442, 3) := by decide +kernel
theorem dX11_appeal_25 : decode cX11_appeal 25 = .ok (.ireturn, 1) := by decide +kernel
theorem dX11_untell_0 : decode cX11_untell 0 = .ok (.iload_n 1, 1) := by decide +kernel
theorem dX11_untell_1 : decode cX11_untell 1 = .ok (.ifCond .lt 20, 3) := by decide +kernel
theorem dX11_untell_4 : decode cX11_untell 4 = .ok (.iload_n 1, 1) := by decide +kernel
theorem dX11_untell_5 : decode cX11_untell 5 = .ok (.aload_n 0, 1) := by decide +kernel
theorem dX11_untell_6 : decode cX11_untell 6 = .ok (.getfield 409, 3) := by decide +kernel
theorem dX11_untell_9 : decode cX11_untell 9 = .ok (.if_icmp .ge 12, 3) := by decide +kernel
theorem dX11_untell_12 : decode cX11_untell 12 = .ok (.aload_n 0, 1) := by decide +kernel
theorem dX11_untell_13 : decode cX11_untell 13 = .ok (.getfield 257, 3) := by decide +kernel
theorem dX11_untell_16 : decode cX11_untell 16 = .ok (.iload_n 1, 1) := by decide +kernel
theorem dX11_untell_17 : decode cX11_untell 17 = .ok (.iaload, 1) := by decide +kernel
theorem dX11_untell_18 : decode cX11_untell 18 = .ok (.ifCond .lt 5, 3) := by decide +kernel
theorem dX11_untell_21 : decode cX11_untell 21 = .ok (.iconst 0, 1) := by decide +kernel
theorem dX11_untell_22 : decode cX11_untell 22 = .ok (.ireturn, 1) := by decide +kernel
theorem dX11_untell_23 : decode cX11_untell 23 = .ok (.aload_n 0, 1) := by decide +kernel
theorem dX11_untell_24 : decode cX11_untell 24 = .ok (.getfield 257, 3) := by decide +kernel
theorem dX11_untell_27 : decode cX11_untell 27 = .ok (.iload_n 1, 1) := by decide +kernel
theorem dX11_untell_28 : decode cX11_untell 28 = .ok (.aload_n 0, 1) := by decide +kernel
theorem dX11_untell_29 : decode cX11_untell 29 = .ok (.getfield 438, 3) := by decide +kernel
theorem dX11_untell_32 : decode cX11_untell 32 = .ok (.iastore, 1) := by decide +kernel
theorem dX11_untell_33 : decode cX11_untell 33 = .ok (.iconst 1, 1) := by decide +kernel
theorem dX11_untell_34 : decode cX11_untell 34 = .ok (.ireturn, 1) := by decide +kernel
theorem dX11_isKnown_0 : decode cX11_isKnown 0 = .ok (.aload_n 0, 1) := by decide +kernel
theorem dX11_isKnown_1 : decode cX11_isKnown 1 = .ok (.getfield 254, 3) := by decide +kernel
theorem dX11_isKnown_4 : decode cX11_isKnown 4 = .ok (.iload_n 1, 1) := by decide +kernel
theorem dX11_isKnown_5 : decode cX11_isKnown 5 = .ok (.iaload, 1) := by decide +kernel
theorem dX11_isKnown_6 : decode cX11_isKnown 6 = .ok (.iload_n 2, 1) := by decide +kernel
theorem dX11_isKnown_7 : decode cX11_isKnown 7 = .ok (.if_icmp .gt 26, 3) := by decide +kernel
theorem dX11_isKnown_10 : decode cX11_isKnown 10 = .ok (.aload_n 0, 1) := by decide +kernel
theorem dX11_isKnown_11 : decode cX11_isKnown 11 = .ok (.getfield 257, 3) := by decide +kernel
theorem dX11_isKnown_14 : decode cX11_isKnown 14 = .ok (.iload_n 1, 1) := by decide +kernel
theorem dX11_isKnown_15 : decode cX11_isKnown 15 = .ok (.iaload, 1) := by decide +kernel
theorem dX11_isKnown_16 : decode cX11_isKnown 16 = .ok (.ifCond .lt 13, 3) := by decide +kernel
theorem dX11_isKnown_19 : decode cX11_isKnown 19 = .ok (.aload_n 0, 1) := by decide +kernel
theorem dX11_isKnown_20 : decode cX11_isKnown 20 = .ok (.getfield 257, 3) := by decide +kernel
theorem dX11_isKnown_23 : decode cX11_isKnown 23 = .ok (.iload_n 1, 1) := by decide +kernel
theorem dX11_isKnown_24 : decode cX11_isKnown 24 = .ok (.iaload, 1) := by decide +kernel
theorem dX11_isKnown_25 : decode cX11_isKnown 25 = .ok (.iload_n 2, 1) := by decide +kernel
theorem dX11_isKnown_26 : decode cX11_isKnown 26 = .ok (.if_icmp .le 7, 3) := by decide +kernel
theorem dX11_isKnown_29 : decode cX11_isKnown 29 = .ok (.iconst 1, 1) := by decide +kernel
theorem dX11_isKnown_30 : decode cX11_isKnown 30 = .ok (.goto 4, 3) := by decide +kernel
theorem dX11_isKnown_33 : decode cX11_isKnown 33 = .ok (.iconst 0, 1) := by decide +kernel
theorem dX11_isKnown_34 : decode cX11_isKnown 34 = .ok (.ireturn, 1) := by decide +kernel
theorem dX11_main_0 : decode cX11_main 0 = .ok (.iconst 0, 1) := by decide +kernel
theorem dX11_main_1 : decode cX11_main 1 = .ok (.istore_n 3, 1) := by decide +kernel
theorem dX11_main_2 : decode cX11_main 2 = .ok (.iload_n 3, 1) := by decide +kernel
theorem dX11_main_3 : decode cX11_main 3 = .ok (.aload_n 0, 1) := by decide +kernel
theorem dX11_main_4 : decode cX11_main 4 = .ok (.getfield 409, 3) := by decide +kernel
theorem dX11_main_7 : decode cX11_main 7 = .ok (.if_icmp .ge 44, 3) := by decide +kernel
theorem dX11_main_10 : decode cX11_main 10 = .ok (.aload_n 0, 1) := by decide +kernel
theorem dX11_main_11 : decode cX11_main 11 = .ok (.getfield 242, 3) := by decide +kernel
theorem dX11_main_14 : decode cX11_main 14 = .ok (.iload_n 3, 1) := by decide +kernel
theorem dX11_main_15 : decode cX11_main 15 = .ok (.iaload, 1) := by decide +kernel
theorem dX11_main_16 : decode cX11_main 16 = .ok (.iload_n 1, 1) := by decide +kernel
theorem dX11_main_17 : decode cX11_main 17 = .ok (.if_icmp .ne 28, 3) := by decide +kernel
theorem dX11_main_20 : decode cX11_main 20 = .ok (.aload_n 0, 1) := by decide +kernel
theorem dX11_main_21 : decode cX11_main 21 = .ok (.getfield 245, 3) := by decide +kernel
theorem dX11_main_24 : decode cX11_main 24 = .ok (.iload_n 3, 1) := by decide +kernel
theorem dX11_main_25 : decode cX11_main 25 = .ok (.iaload, 1) := by decide +kernel
theorem dX11_main_26 : decode cX11_main 26 = .ok (.ifCond .lt 19, 3) := by decide +kernel
theorem dX11_main_29 : decode cX11_main 29 = .ok (.aload_n 0, 1) := by decide +kernel
theorem dX11_main_30 : decode cX11_main 30 = .ok (.iload_n 3, 1) := by decide +kernel
theorem dX11_main_31 : decode cX11_main 31 = .ok (.iload_n 2, 1) := by decide +kernel
theorem dX11_main_32 : decode cX11_main 32 = .ok (.invokevirtual 448, 3) := by decide +kernel
theorem dX11_main_35 : decode cX11_main 35 = .ok (.ifCond .eq 10, 3) := by decide +kernel
theorem dX11_main_38 : decode cX11_main 38 = .ok (.aload_n 0, 1) := by decide +kernel
theorem dX11_main_39 : decode cX11_main 39 = .ok (.getfield 245, 3) := by decide +kernel
theorem dX11_main_42 : decode cX11_main 42 = .ok (.iload_n 3, 1) := by decide +kernel
theorem dX11_main_43 : decode cX11_main 43 = .ok (.iaload, 1) := by decide +kernel
theorem dX11_main_44 : decode cX11_main 44 = .ok (.ireturn, 1) := by decide +kernel
theorem dX11_main_45 : decode cX11_main 45 = .ok (.iinc 3 1, 3) := by decide +kernel
theorem dX11_main_48 : decode cX11_main 48 = .ok (.goto (-46), 3) := by decide +kernel
theorem dX11_main_51 : decode cX11_main 51 = .ok (.iconst (-1), 1) := by decide +kernel
theorem dX11_main_52 : decode cX11_main 52 = .ok (.ireturn, 1) := by decide +kernel
theorem dX11_lastOf_0 : decode cX11_lastOf 0 = .ok (.iconst (-1), 1) := by decide +kernel
theorem dX11_lastOf_1 : decode cX11_lastOf 1 = .ok (.istore 5, 2) := by decide +kernel
theorem dX11_lastOf_3 : decode cX11_lastOf 3 = .ok (.iconst 0, 1) := by decide +kernel
theorem dX11_lastOf_4 : decode cX11_lastOf 4 = .ok (.istore 6, 2) := by decide +kernel
theorem dX11_lastOf_6 : decode cX11_lastOf 6 = .ok (.iload 6, 2) := by decide +kernel
theorem dX11_lastOf_8 : decode cX11_lastOf 8 = .ok (.aload_n 0, 1) := by decide +kernel
theorem dX11_lastOf_9 : decode cX11_lastOf 9 = .ok (.getfield 409, 3) := by decide +kernel
theorem dX11_lastOf_12 : decode cX11_lastOf 12 = .ok (.if_icmp .ge 62, 3) := by decide +kernel
theorem dX11_lastOf_15 : decode cX11_lastOf 15 = .ok (.aload_n 0, 1) := by decide +kernel
theorem dX11_lastOf_16 : decode cX11_lastOf 16 = .ok (.getfield 242, 3) := by decide +kernel
theorem dX11_lastOf_19 : decode cX11_lastOf 19 = .ok (.iload 6, 2) := by decide +kernel
theorem dX11_lastOf_21 : decode cX11_lastOf 21 = .ok (.iaload, 1) := by decide +kernel
theorem dX11_lastOf_22 : decode cX11_lastOf 22 = .ok (.iload_n 1, 1) := by decide +kernel
theorem dX11_lastOf_23 : decode cX11_lastOf 23 = .ok (.if_icmp .ne 45, 3) := by decide +kernel
theorem dX11_lastOf_26 : decode cX11_lastOf 26 = .ok (.aload_n 0, 1) := by decide +kernel
theorem dX11_lastOf_27 : decode cX11_lastOf 27 = .ok (.getfield 248, 3) := by decide +kernel
theorem dX11_lastOf_30 : decode cX11_lastOf 30 = .ok (.iload 6, 2) := by decide +kernel
theorem dX11_lastOf_32 : decode cX11_lastOf 32 = .ok (.iaload, 1) := by decide +kernel
theorem dX11_lastOf_33 : decode cX11_lastOf 33 = .ok (.iload_n 2, 1) := by decide +kernel
theorem dX11_lastOf_34 : decode cX11_lastOf 34 = .ok (.if_icmp .ne 34, 3) := by decide +kernel
theorem dX11_lastOf_37 : decode cX11_lastOf 37 = .ok (.aload_n 0, 1) := by decide +kernel
theorem dX11_lastOf_38 : decode cX11_lastOf 38 = .ok (.getfield 245, 3) := by decide +kernel
theorem dX11_lastOf_41 : decode cX11_lastOf 41 = .ok (.iload 6, 2) := by decide +kernel
theorem dX11_lastOf_43 : decode cX11_lastOf 43 = .ok (.iaload, 1) := by decide +kernel
theorem dX11_lastOf_44 : decode cX11_lastOf 44 = .ok (.iload_n 3, 1) := by decide +kernel
theorem dX11_lastOf_45 : decode cX11_lastOf 45 = .ok (.if_icmp .ne 23, 3) := by decide +kernel
theorem dX11_lastOf_48 : decode cX11_lastOf 48 = .ok (.aload_n 0, 1) := by decide +kernel
theorem dX11_lastOf_49 : decode cX11_lastOf 49 = .ok (.iload 6, 2) := by decide +kernel
theorem dX11_lastOf_51 : decode cX11_lastOf 51 = .ok (.iload 4, 2) := by decide +kernel
theorem dX11_lastOf_53 : decode cX11_lastOf 53 = .ok (.invokevirtual 448, 3) := by decide +kernel
theorem dX11_lastOf_56 : decode cX11_lastOf 56 = .ok (.ifCond .eq 12, 3) := by decide +kernel
theorem dX11_lastOf_59 : decode cX11_lastOf 59 = .ok (.aload_n 0, 1) := by decide +kernel
theorem dX11_lastOf_60 : decode cX11_lastOf 60 = .ok (.getfield 251, 3) := by decide +kernel
theorem dX11_lastOf_63 : decode cX11_lastOf 63 = .ok (.iload 6, 2) := by decide +kernel
theorem dX11_lastOf_65 : decode cX11_lastOf 65 = .ok (.iaload, 1) := by decide +kernel
theorem dX11_lastOf_66 : decode cX11_lastOf 66 = .ok (.istore 5, 2) := by decide +kernel
theorem dX11_lastOf_68 : decode cX11_lastOf 68 = .ok (.iinc 6 1, 3) := by decide +kernel
theorem dX11_lastOf_71 : decode cX11_lastOf 71 = .ok (.goto (-65), 3) := by decide +kernel
theorem dX11_lastOf_74 : decode cX11_lastOf 74 = .ok (.iload 5, 2) := by decide +kernel
theorem dX11_lastOf_76 : decode cX11_lastOf 76 = .ok (.ireturn, 1) := by decide +kernel
theorem dX11_known_0 : decode cX11_known 0 = .ok (.aload_n 0, 1) := by decide +kernel
theorem dX11_known_1 : decode cX11_known 1 = .ok (.iload_n 1, 1) := by decide +kernel
theorem dX11_known_2 : decode cX11_known 2 = .ok (.invokevirtual 362, 3) := by decide +kernel
theorem dX11_known_5 : decode cX11_known 5 = .ok (.ifCond .ne 5, 3) := by decide +kernel
theorem dX11_known_8 : decode cX11_known 8 = .ok (.iconst (-1), 1) := by decide +kernel
theorem dX11_known_9 : decode cX11_known 9 = .ok (.ireturn, 1) := by decide +kernel
theorem dX11_known_10 : decode cX11_known 10 = .ok (.aload_n 0, 1) := by decide +kernel
theorem dX11_known_11 : decode cX11_known 11 = .ok (.iload_n 1, 1) := by decide +kernel
theorem dX11_known_12 : decode cX11_known 12 = .ok (.iload_n 2, 1) := by decide +kernel
theorem dX11_known_13 : decode cX11_known 13 = .ok (.iconst (-1), 1) := by decide +kernel
theorem dX11_known_14 : decode cX11_known 14 = .ok (.iload_n 3, 1) := by decide +kernel
theorem dX11_known_15 : decode cX11_known 15 = .ok (.invokevirtual 451, 3) := by decide +kernel
theorem dX11_known_18 : decode cX11_known 18 = .ok (.istore 4, 2) := by decide +kernel
theorem dX11_known_20 : decode cX11_known 20 = .ok (.aload_n 0, 1) := by decide +kernel
theorem dX11_known_21 : decode cX11_known 21 = .ok (.iload_n 1, 1) := by decide +kernel
theorem dX11_known_22 : decode cX11_known 22 = .ok (.iload_n 3, 1) := by decide +kernel
theorem dX11_known_23 : decode cX11_known 23 = .ok (.invokevirtual 454, 3) := by decide +kernel
theorem dX11_known_26 : decode cX11_known 26 = .ok (.istore 5, 2) := by decide +kernel
theorem dX11_known_28 : decode cX11_known 28 = .ok (.iload 4, 2) := by decide +kernel
theorem dX11_known_30 : decode cX11_known 30 = .ok (.ifCond .lt 8, 3) := by decide +kernel
theorem dX11_known_33 : decode cX11_known 33 = .ok (.iload 4, 2) := by decide +kernel
theorem dX11_known_35 : decode cX11_known 35 = .ok (.goto 21, 3) := by decide +kernel
theorem dX11_known_38 : decode cX11_known 38 = .ok (.iload 5, 2) := by decide +kernel
theorem dX11_known_40 : decode cX11_known 40 = .ok (.ifCond .ge 7, 3) := by decide +kernel
theorem dX11_known_43 : decode cX11_known 43 = .ok (.iconst (-1), 1) := by decide +kernel
theorem dX11_known_44 : decode cX11_known 44 = .ok (.goto 12, 3) := by decide +kernel
theorem dX11_known_47 : decode cX11_known 47 = .ok (.aload_n 0, 1) := by decide +kernel
theorem dX11_known_48 : decode cX11_known 48 = .ok (.iload_n 1, 1) := by decide +kernel
theorem dX11_known_49 : decode cX11_known 49 = .ok (.iload_n 2, 1) := by decide +kernel
theorem dX11_known_50 : decode cX11_known 50 = .ok (.iload 5, 2) := by decide +kernel
theorem dX11_known_52 : decode cX11_known 52 = .ok (.iload_n 3, 1) := by decide +kernel
theorem dX11_known_53 : decode cX11_known 53 = .ok (.invokevirtual 451, 3) := by decide +kernel
theorem dX11_known_56 : decode cX11_known 56 = .ok (.ireturn, 1) := by decide +kernel
theorem dX11_result_0 : decode cX11_result 0 = .ok (.aload_n 0, 1) := by decide +kernel
theorem dX11_result_1 : decode cX11_result 1 = .ok (.iload_n 1, 1) := by decide +kernel
theorem dX11_result_2 : decode cX11_result 2 = .ok (.invokevirtual 362, 3) := by decide +kernel
theorem dX11_result_5 : decode cX11_result 5 = .ok (.ifCond .eq 12, 3) := by decide +kernel
theorem dX11_result_8 : decode cX11_result 8 = .ok (.aload_n 0, 1) := by decide +kernel
theorem dX11_result_9 : decode cX11_result 9 = .ok (.iload_n 1, 1) := by decide +kernel
theorem dX11_result_10 : decode cX11_result 10 = .ok (.invokevirtual 457, 3) := by decide +kernel
theorem dX11_result_13 : decode cX11_result 13 = .ok (.iconst (-1), 1) := by decide +kernel
theorem dX11_result_14 : decode cX11_result 14 = .ok (.if_icmp .eq 5, 3) := by decide +kernel
theorem dX11_result_17 : decode cX11_result 17 = .ok (.iconst (-1), 1) := by decide +kernel
theorem dX11_result_18 : decode cX11_result 18 = .ok (.ireturn, 1) := by decide +kernel
theorem dX11_result_19 : decode cX11_result 19 = .ok (.aload_n 0, 1) := by decide +kernel
theorem dX11_result_20 : decode cX11_result 20 = .ok (.iload_n 1, 1) := by decide +kernel
theorem dX11_result_21 : decode cX11_result 21 = .ok (.invokevirtual 388, 3) := by decide +kernel
theorem dX11_result_24 : decode cX11_result 24 = .ok (.istore_n 3, 1) := by decide +kernel
theorem dX11_result_25 : decode cX11_result 25 = .ok (.iconst 0, 1) := by decide +kernel
theorem dX11_result_26 : decode cX11_result 26 = .ok (.istore 4, 2) := by decide +kernel
theorem dX11_result_28 : decode cX11_result 28 = .ok (.iload 4, 2) := by decide +kernel
theorem dX11_result_30 : decode cX11_result 30 = .ok (.aload_n 0, 1) := by decide +kernel
theorem dX11_result_31 : decode cX11_result 31 = .ok (.getfield 127, 3) := by decide +kernel
theorem dX11_result_34 : decode cX11_result 34 = .ok (.iload_n 3, 1) := by decide +kernel
theorem dX11_result_35 : decode cX11_result 35 = .ok (.iaload, 1) := by decide +kernel
theorem dX11_result_36 : decode cX11_result 36 = .ok (.if_icmp .ge 36, 3) := by decide +kernel
theorem dX11_result_39 : decode cX11_result 39 = .ok (.aload_n 0, 1) := by decide +kernel
theorem dX11_result_40 : decode cX11_result 40 = .ok (.getfield 212, 3) := by decide +kernel
theorem dX11_result_43 : decode cX11_result 43 = .ok (.iload 4, 2) := by decide +kernel
theorem dX11_result_45 : decode cX11_result 45 = .ok (.aload_n 0, 1) := by decide +kernel
theorem dX11_result_46 : decode cX11_result 46 = .ok (.iload_n 1, 1) := by decide +kernel
theorem dX11_result_47 : decode cX11_result 47 = .ok (.iload 4, 2) := by decide +kernel
theorem dX11_result_49 : decode cX11_result 49 = .ok (.iload_n 2, 1) := by decide +kernel
theorem dX11_result_50 : decode cX11_result 50 = .ok (.invokevirtual 445, 3) := by decide +kernel
theorem dX11_result_53 : decode cX11_result 53 = .ok (.iastore, 1) := by decide +kernel
theorem dX11_result_54 : decode cX11_result 54 = .ok (.aload_n 0, 1) := by decide +kernel
theorem dX11_result_55 : decode cX11_result 55 = .ok (.getfield 212, 3) := by decide +kernel
theorem dX11_result_58 : decode cX11_result 58 = .ok (.iload 4, 2) := by decide +kernel
theorem dX11_result_60 : decode cX11_result 60 = .ok (.iaload, 1) := by decide +kernel
theorem dX11_result_61 : decode cX11_result 61 = .ok (.ifCond .ge 5, 3) := by decide +kernel
theorem dX11_result_64 : decode cX11_result 64 = .ok (.iconst (-1), 1) := by decide +kernel
theorem dX11_result_65 : decode cX11_result 65 = .ok (.ireturn, 1) := by decide +kernel
theorem dX11_result_66 : decode cX11_result 66 = .ok (.iinc 4 1, 3) := by decide +kernel
theorem dX11_result_69 : decode cX11_result 69 = .ok (.goto (-41), 3) := by decide +kernel
theorem dX11_result_72 : decode cX11_result 72 = .ok (.aload_n 0, 1) := by decide +kernel
theorem dX11_result_73 : decode cX11_result 73 = .ok (.getfield 145, 3) := by decide +kernel
theorem dX11_result_76 : decode cX11_result 76 = .ok (.iload_n 3, 1) := by decide +kernel
theorem dX11_result_77 : decode cX11_result 77 = .ok (.iaload, 1) := by decide +kernel
theorem dX11_result_78 : decode cX11_result 78 = .ok (.ifCond .lt 26, 3) := by decide +kernel
theorem dX11_result_81 : decode cX11_result 81 = .ok (.aload_n 0, 1) := by decide +kernel
theorem dX11_result_82 : decode cX11_result 82 = .ok (.aload_n 0, 1) := by decide +kernel
theorem dX11_result_83 : decode cX11_result 83 = .ok (.getfield 145, 3) := by decide +kernel
theorem dX11_result_86 : decode cX11_result 86 = .ok (.iload_n 3, 1) := by decide +kernel
theorem dX11_result_87 : decode cX11_result 87 = .ok (.iaload, 1) := by decide +kernel
theorem dX11_result_88 : decode cX11_result 88 = .ok (.aload_n 0, 1) := by decide +kernel
theorem dX11_result_89 : decode cX11_result 89 = .ok (.getfield 148, 3) := by decide +kernel
theorem dX11_result_92 : decode cX11_result 92 = .ok (.iload_n 3, 1) := by decide +kernel
theorem dX11_result_93 : decode cX11_result 93 = .ok (.iaload, 1) := by decide +kernel
theorem dX11_result_94 : decode cX11_result 94 = .ok (.iload_n 3, 1) := by decide +kernel
theorem dX11_result_95 : decode cX11_result 95 = .ok (.iload_n 1, 1) := by decide +kernel
theorem dX11_result_96 : decode cX11_result 96 = .ok (.invokevirtual 391, 3) := by decide +kernel
theorem dX11_result_99 : decode cX11_result 99 = .ok (.ifCond .ne 5, 3) := by decide +kernel
theorem dX11_result_102 : decode cX11_result 102 = .ok (.iconst 0, 1) := by decide +kernel
theorem dX11_result_103 : decode cX11_result 103 = .ok (.ireturn, 1) := by decide +kernel
theorem dX11_result_104 : decode cX11_result 104 = .ok (.aload_n 0, 1) := by decide +kernel
theorem dX11_result_105 : decode cX11_result 105 = .ok (.getfield 151, 3) := by decide +kernel
theorem dX11_result_108 : decode cX11_result 108 = .ok (.iload_n 3, 1) := by decide +kernel
theorem dX11_result_109 : decode cX11_result 109 = .ok (.iaload, 1) := by decide +kernel
theorem dX11_result_110 : decode cX11_result 110 = .ok (.ifCond .lt 28, 3) := by decide +kernel
theorem dX11_result_113 : decode cX11_result 113 = .ok (.aload_n 0, 1) := by decide +kernel
theorem dX11_result_114 : decode cX11_result 114 = .ok (.aload_n 0, 1) := by decide +kernel
theorem dX11_result_115 : decode cX11_result 115 = .ok (.getfield 151, 3) := by decide +kernel
theorem dX11_result_118 : decode cX11_result 118 = .ok (.iload_n 3, 1) := by decide +kernel
theorem dX11_result_119 : decode cX11_result 119 = .ok (.iaload, 1) := by decide +kernel
theorem dX11_result_120 : decode cX11_result 120 = .ok (.aload_n 0, 1) := by decide +kernel
theorem dX11_result_121 : decode cX11_result 121 = .ok (.getfield 154, 3) := by decide +kernel
theorem dX11_result_124 : decode cX11_result 124 = .ok (.iload_n 3, 1) := by decide +kernel
theorem dX11_result_125 : decode cX11_result 125 = .ok (.iaload, 1) := by decide +kernel
theorem dX11_result_126 : decode cX11_result 126 = .ok (.iload_n 3, 1) := by decide +kernel
theorem dX11_result_127 : decode cX11_result 127 = .ok (.iload_n 1, 1) := by decide +kernel
theorem dX11_result_128 : decode cX11_result 128 = .ok (.invokevirtual 391, 3) := by decide +kernel
theorem dX11_result_131 : decode cX11_result 131 = .ok (.ifCond .eq 7, 3) := by decide +kernel
theorem dX11_result_134 : decode cX11_result 134 = .ok (.iconst 2, 1) := by decide +kernel
theorem dX11_result_135 : decode cX11_result 135 = .ok (.goto 4, 3) := by decide +kernel
theorem dX11_result_138 : decode cX11_result 138 = .ok (.iconst 1, 1) := by decide +kernel
theorem dX11_result_139 : decode cX11_result 139 = .ok (.ireturn, 1) := by decide +kernel
theorem dX11_hardness_0 : decode cX11_hardness 0 = .ok (.aload_n 0, 1) := by decide +kernel
theorem dX11_hardness_1 : decode cX11_hardness 1 = .ok (.iload_n 1, 1) := by decide +kernel
theorem dX11_hardness_2 : decode cX11_hardness 2 = .ok (.invokevirtual 416, 3) := by decide +kernel
theorem dX11_hardness_5 : decode cX11_hardness 5 = .ok (.ifCond .ne 7, 3) := by decide +kernel
theorem dX11_hardness_8 : decode cX11_hardness 8 = .ok (.sipush (-1000), 3) := by decide +kernel
theorem dX11_hardness_11 : decode cX11_hardness 11 = .ok (.ireturn, 1) := by decide +kernel
theorem dX11_hardness_12 : decode cX11_hardness 12 = .ok (.iconst 0, 1) := by decide +kernel
theorem dX11_hardness_13 : decode cX11_hardness 13 = .ok (.istore_n 2, 1) := by decide +kernel
theorem dX11_hardness_14 : decode cX11_hardness 14 = .ok (.iconst 0, 1) := by decide +kernel
theorem dX11_hardness_15 : decode cX11_hardness 15 = .ok (.istore_n 3, 1) := by decide +kernel
theorem dX11_hardness_16 : decode cX11_hardness 16 = .ok (.iload_n 3, 1) := by decide +kernel
theorem dX11_hardness_17 : decode cX11_hardness 17 = .ok (.aload_n 0, 1) := by decide +kernel
theorem dX11_hardness_18 : decode cX11_hardness 18 = .ok (.getfield 354, 3) := by decide +kernel
theorem dX11_hardness_21 : decode cX11_hardness 21 = .ok (.if_icmp .ge 109, 3) := by decide +kernel
theorem dX11_hardness_24 : decode cX11_hardness 24 = .ok (.iconst 0, 1) := by decide +kernel
theorem dX11_hardness_25 : decode cX11_hardness 25 = .ok (.istore 4, 2) := by decide +kernel
theorem dX11_hardness_27 : decode cX11_hardness 27 = .ok (.iload 4, 2) := by decide +kernel
theorem dX11_hardness_29 : decode cX11_hardness 29 = .ok (.bipush 6, 2) := by decide +kernel
theorem dX11_hardness_31 : decode cX11_hardness 31 = .ok (.if_icmp .ge 93, 3) := by decide +kernel
theorem dX11_hardness_34 : decode cX11_hardness 34 = .ok (.aload_n 0, 1) := by decide +kernel
theorem dX11_hardness_35 : decode cX11_hardness 35 = .ok (.iload_n 3, 1) := by decide +kernel
theorem dX11_hardness_36 : decode cX11_hardness 36 = .ok (.iload 4, 2) := by decide +kernel
theorem dX11_hardness_38 : decode cX11_hardness 38 = .ok (.iload_n 1, 1) := by decide +kernel
theorem dX11_hardness_39 : decode cX11_hardness 39 = .ok (.aload_n 0, 1) := by decide +kernel
theorem dX11_hardness_40 : decode cX11_hardness 40 = .ok (.getfield 438, 3) := by decide +kernel
theorem dX11_hardness_43 : decode cX11_hardness 43 = .ok (.invokevirtual 451, 3) := by decide +kernel
theorem dX11_hardness_46 : decode cX11_hardness 46 = .ok (.istore 5, 2) := by decide +kernel
theorem dX11_hardness_48 : decode cX11_hardness 48 = .ok (.iconst 0, 1) := by decide +kernel
theorem dX11_hardness_49 : decode cX11_hardness 49 = .ok (.istore 6, 2) := by decide +kernel
theorem dX11_hardness_51 : decode cX11_hardness 51 = .ok (.iload 6, 2) := by decide +kernel
theorem dX11_hardness_53 : decode cX11_hardness 53 = .ok (.aload_n 0, 1) := by decide +kernel
theorem dX11_hardness_54 : decode cX11_hardness 54 = .ok (.getfield 357, 3) := by decide +kernel
theorem dX11_hardness_57 : decode cX11_hardness 57 = .ok (.if_icmp .ge 61, 3) := by decide +kernel
theorem dX11_hardness_60 : decode cX11_hardness 60 = .ok (.iload 5, 2) := by decide +kernel
theorem dX11_hardness_62 : decode cX11_hardness 62 = .ok (.ifCond .lt 56, 3) := by decide +kernel
theorem dX11_hardness_65 : decode cX11_hardness 65 = .ok (.iload 6, 2) := by decide +kernel
theorem dX11_hardness_67 : decode cX11_hardness 67 = .ok (.iload_n 1, 1) := by decide +kernel
theorem dX11_hardness_68 : decode cX11_hardness 68 = .ok (.if_icmp .ne 7, 3) := by decide +kernel
theorem dX11_hardness_71 : decode cX11_hardness 71 = .ok (.iconst (-1), 1) := by decide +kernel
theorem dX11_hardness_72 : decode cX11_hardness 72 = .ok (.goto 16, 3) := by decide +kernel
theorem dX11_hardness_75 : decode cX11_hardness 75 = .ok (.aload_n 0, 1) := by decide +kernel
theorem dX11_hardness_76 : decode cX11_hardness 76 = .ok (.iload_n 3, 1) := by decide +kernel
theorem dX11_hardness_77 : decode cX11_hardness 77 = .ok (.iload 4, 2) := by decide +kernel
theorem dX11_hardness_79 : decode cX11_hardness 79 = .ok (.iload 6, 2) := by decide +kernel
theorem dX11_hardness_81 : decode cX11_hardness 81 = .ok (.aload_n 0, 1) := by decide +kernel
theorem dX11_hardness_82 : decode cX11_hardness 82 = .ok (.getfield 438, 3) := by decide +kernel
theorem dX11_hardness_85 : decode cX11_hardness 85 = .ok (.invokevirtual 451, 3) := by decide +kernel
theorem dX11_hardness_88 : decode cX11_hardness 88 = .ok (.istore 7, 2) := by decide +kernel
theorem dX11_hardness_90 : decode cX11_hardness 90 = .ok (.iload 7, 2) := by decide +kernel
theorem dX11_hardness_92 : decode cX11_hardness 92 = .ok (.ifCond .ge 6, 3) := by decide +kernel
theorem dX11_hardness_95 : decode cX11_hardness 95 = .ok (.goto 17, 3) := by decide +kernel
theorem dX11_hardness_98 : decode cX11_hardness 98 = .ok (.aload_n 0, 1) := by decide +kernel
theorem dX11_hardness_99 : decode cX11_hardness 99 = .ok (.getfield 260, 3) := by decide +kernel
theorem dX11_hardness_102 : decode cX11_hardness 102 = .ok (.iload_n 2, 1) := by decide +kernel
theorem dX11_hardness_103 : decode cX11_hardness 103 = .ok (.iload 7, 2) := by decide +kernel
theorem dX11_hardness_105 : decode cX11_hardness 105 = .ok (.iload 5, 2) := by decide +kernel
theorem dX11_hardness_107 : decode cX11_hardness 107 = .ok (.isub, 1) := by decide +kernel
theorem dX11_hardness_108 : decode cX11_hardness 108 = .ok (.iastore, 1) := by decide +kernel
theorem dX11_hardness_109 : decode cX11_hardness 109 = .ok (.iinc 2 1, 3) := by decide +kernel
theorem dX11_hardness_112 : decode cX11_hardness 112 = .ok (.iinc 6 1, 3) := by decide +kernel
theorem dX11_hardness_115 : decode cX11_hardness 115 = .ok (.goto (-64), 3) := by decide +kernel
theorem dX11_hardness_118 : decode cX11_hardness 118 = .ok (.iinc 4 1, 3) := by decide +kernel
theorem dX11_hardness_121 : decode cX11_hardness 121 = .ok (.goto (-94), 3) := by decide +kernel
theorem dX11_hardness_124 : decode cX11_hardness 124 = .ok (.iinc 3 1, 3) := by decide +kernel
theorem dX11_hardness_127 : decode cX11_hardness 127 = .ok (.goto (-111), 3) := by decide +kernel
theorem dX11_hardness_130 : decode cX11_hardness 130 = .ok (.iload_n 2, 1) := by decide +kernel
theorem dX11_hardness_131 : decode cX11_hardness 131 = .ok (.ifCond .ne 7, 3) := by decide +kernel
theorem dX11_hardness_134 : decode cX11_hardness 134 = .ok (.sipush (-1000), 3) := by decide +kernel
theorem dX11_hardness_137 : decode cX11_hardness 137 = .ok (.ireturn, 1) := by decide +kernel
theorem dX11_hardness_138 : decode cX11_hardness 138 = .ok (.iload_n 2, 1) := by decide +kernel
theorem dX11_hardness_139 : decode cX11_hardness 139 = .ok (.iconst 1, 1) := by decide +kernel
theorem dX11_hardness_140 : decode cX11_hardness 140 = .ok (.isub, 1) := by decide +kernel
theorem dX11_hardness_141 : decode cX11_hardness 141 = .ok (.iconst 2, 1) := by decide +kernel
theorem dX11_hardness_142 : decode cX11_hardness 142 = .ok (.idiv, 1) := by decide +kernel
theorem dX11_hardness_143 : decode cX11_hardness 143 = .ok (.istore_n 3, 1) := by decide +kernel
theorem dX11_hardness_144 : decode cX11_hardness 144 = .ok (.iconst 0, 1) := by decide +kernel
theorem dX11_hardness_145 : decode cX11_hardness 145 = .ok (.istore 4, 2) := by decide +kernel
theorem dX11_hardness_147 : decode cX11_hardness 147 = .ok (.iload 4, 2) := by decide +kernel
theorem dX11_hardness_149 : decode cX11_hardness 149 = .ok (.iload_n 2, 1) := by decide +kernel
theorem dX11_hardness_150 : decode cX11_hardness 150 = .ok (.if_icmp .ge 107, 3) := by decide +kernel
theorem dX11_hardness_153 : decode cX11_hardness 153 = .ok (.iconst 0, 1) := by decide +kernel
theorem dX11_hardness_154 : decode cX11_hardness 154 = .ok (.istore 5, 2) := by decide +kernel
theorem dX11_hardness_156 : decode cX11_hardness 156 = .ok (.iconst 0, 1) := by decide +kernel
theorem dX11_hardness_157 : decode cX11_hardness 157 = .ok (.istore 6, 2) := by decide +kernel
theorem dX11_hardness_159 : decode cX11_hardness 159 = .ok (.iconst 0, 1) := by decide +kernel
theorem dX11_hardness_160 : decode cX11_hardness 160 = .ok (.istore 7, 2) := by decide +kernel
theorem dX11_hardness_162 : decode cX11_hardness 162 = .ok (.iload 7, 2) := by decide +kernel
theorem dX11_hardness_164 : decode cX11_hardness 164 = .ok (.iload_n 2, 1) := by decide +kernel
theorem dX11_hardness_165 : decode cX11_hardness 165 = .ok (.if_icmp .ge 63, 3) := by decide +kernel
theorem dX11_hardness_168 : decode cX11_hardness 168 = .ok (.iload 5, 2) := by decide +kernel
theorem dX11_hardness_170 : decode cX11_hardness 170 = .ok (.aload_n 0, 1) := by decide +kernel
theorem dX11_hardness_171 : decode cX11_hardness 171 = .ok (.getfield 260, 3) := by decide +kernel
theorem dX11_hardness_174 : decode cX11_hardness 174 = .ok (.iload 7, 2) := by decide +kernel
theorem dX11_hardness_176 : decode cX11_hardness 176 = .ok (.iaload, 1) := by decide +kernel
theorem dX11_hardness_177 : decode cX11_hardness 177 = .ok (.aload_n 0, 1) := by decide +kernel
theorem dX11_hardness_178 : decode cX11_hardness 178 = .ok (.getfield 260, 3) := by decide +kernel
theorem dX11_hardness_181 : decode cX11_hardness 181 = .ok (.iload 4, 2) := by decide +kernel
theorem dX11_hardness_183 : decode cX11_hardness 183 = .ok (.iaload, 1) := by decide +kernel
theorem dX11_hardness_184 : decode cX11_hardness 184 = .ok (.if_icmp .ge 7, 3) := by decide +kernel
theorem dX11_hardness_187 : decode cX11_hardness 187 = .ok (.iconst 1, 1) := by decide +kernel
theorem dX11_hardness_188 : decode cX11_hardness 188 = .ok (.goto 4, 3) := by decide +kernel
theorem dX11_hardness_191 : decode cX11_hardness 191 = .ok (.iconst 0, 1) := by decide +kernel
theorem dX11_hardness_192 : decode cX11_hardness 192 = .ok (.iadd, 1) := by decide +kernel
theorem dX11_hardness_193 : decode cX11_hardness 193 = .ok (.istore 5, 2) := by decide +kernel
theorem dX11_hardness_195 : decode cX11_hardness 195 = .ok (.iload 6, 2) := by decide +kernel
theorem dX11_hardness_197 : decode cX11_hardness 197 = .ok (.aload_n 0, 1) := by decide +kernel
theorem dX11_hardness_198 : decode cX11_hardness 198 = .ok (.getfield 260, 3) := by decide +kernel
theorem dX11_hardness_201 : decode cX11_hardness 201 = .ok (.iload 7, 2) := by decide +kernel
theorem dX11_hardness_203 : decode cX11_hardness 203 = .ok (.iaload, 1) := by decide +kernel
theorem dX11_hardness_204 : decode cX11_hardness 204 = .ok (.aload_n 0, 1) := by decide +kernel
theorem dX11_hardness_205 : decode cX11_hardness 205 = .ok (.getfield 260, 3) := by decide +kernel
theorem dX11_hardness_208 : decode cX11_hardness 208 = .ok (.iload 4, 2) := by decide +kernel
theorem dX11_hardness_210 : decode cX11_hardness 210 = .ok (.iaload, 1) := by decide +kernel
theorem dX11_hardness_211 : decode cX11_hardness 211 = .ok (.if_icmp .ne 7, 3) := by decide +kernel
theorem dX11_hardness_214 : decode cX11_hardness 214 = .ok (.iconst 1, 1) := by decide +kernel
theorem dX11_hardness_215 : decode cX11_hardness 215 = .ok (.goto 4, 3) := by decide +kernel
theorem dX11_hardness_218 : decode cX11_hardness 218 = .ok (.iconst 0, 1) := by decide +kernel
theorem dX11_hardness_219 : decode cX11_hardness 219 = .ok (.iadd, 1) := by decide +kernel
theorem dX11_hardness_220 : decode cX11_hardness 220 = .ok (.istore 6, 2) := by decide +kernel
theorem dX11_hardness_222 : decode cX11_hardness 222 = .ok (.iinc 7 1, 3) := by decide +kernel
theorem dX11_hardness_225 : decode cX11_hardness 225 = .ok (.goto (-63), 3) := by decide +kernel
theorem dX11_hardness_228 : decode cX11_hardness 228 = .ok (.iload 5, 2) := by decide +kernel
theorem dX11_hardness_230 : decode cX11_hardness 230 = .ok (.iload_n 3, 1) := by decide +kernel
theorem dX11_hardness_231 : decode cX11_hardness 231 = .ok (.if_icmp .gt 20, 3) := by decide +kernel
theorem dX11_hardness_234 : decode cX11_hardness 234 = .ok (.iload_n 3, 1) := by decide +kernel
theorem dX11_hardness_235 : decode cX11_hardness 235 = .ok (.iload 5, 2) := by decide +kernel
theorem dX11_hardness_237 : decode cX11_hardness 237 = .ok (.iload 6, 2) := by decide +kernel
theorem dX11_hardness_239 : decode cX11_hardness 239 = .ok (.iadd, 1) := by decide +kernel
theorem dX11_hardness_240 : decode cX11_hardness 240 = .ok (.if_icmp .ge 11, 3) := by decide +kernel
theorem dX11_hardness_243 : decode cX11_hardness 243 = .ok (.aload_n 0, 1) := by decide +kernel
theorem dX11_hardness_244 : decode cX11_hardness 244 = .ok (.getfield 260, 3) := by decide +kernel
theorem dX11_hardness_247 : decode cX11_hardness 247 = .ok (.iload 4, 2) := by decide +kernel
theorem dX11_hardness_249 : decode cX11_hardness 249 = .ok (.iaload, 1) := by decide +kernel
theorem dX11_hardness_250 : decode cX11_hardness 250 = .ok (.ireturn, 1) := by decide +kernel
theorem dX11_hardness_251 : decode cX11_hardness 251 = .ok (.iinc 4 1, 3) := by decide +kernel
theorem dX11_hardness_254 : decode cX11_hardness 254 = .ok (.goto (-107), 3) := by decide +kernel
theorem dX11_hardness_257 : decode cX11_hardness 257 = .ok (.sipush (-1000), 3) := by decide +kernel
theorem dX11_hardness_260 : decode cX11_hardness 260 = .ok (.ireturn, 1) := by decide +kernel
theorem dX11_doesHold_0 : decode cX11_doesHold 0 = .ok (.iload_n 2, 1) := by decide +kernel
theorem dX11_doesHold_1 : decode cX11_doesHold 1 = .ok (.aload_n 0, 1) := by decide +kernel
theorem dX11_doesHold_2 : decode cX11_doesHold 2 = .ok (.getfield 266, 3) := by decide +kernel
theorem dX11_doesHold_5 : decode cX11_doesHold 5 = .ok (.iload_n 1, 1) := by decide +kernel
theorem dX11_doesHold_6 : decode cX11_doesHold 6 = .ok (.iaload, 1) := by decide +kernel
theorem dX11_doesHold_7 : decode cX11_doesHold 7 = .ok (.if_icmp .lt 27, 3) := by decide +kernel
theorem dX11_doesHold_10 : decode cX11_doesHold 10 = .ok (.aload_n 0, 1) := by decide +kernel
theorem dX11_doesHold_11 : decode cX11_doesHold 11 = .ok (.aload_n 0, 1) := by decide +kernel
theorem dX11_doesHold_12 : decode cX11_doesHold 12 = .ok (.getfield 263, 3) := by decide +kernel
theorem dX11_doesHold_15 : decode cX11_doesHold 15 = .ok (.iload_n 1, 1) := by decide +kernel
theorem dX11_doesHold_16 : decode cX11_doesHold 16 = .ok (.iaload, 1) := by decide +kernel
theorem dX11_doesHold_17 : decode cX11_doesHold 17 = .ok (.iload_n 2, 1) := by decide +kernel
theorem dX11_doesHold_18 : decode cX11_doesHold 18 = .ok (.invokevirtual 460, 3) := by decide +kernel
theorem dX11_doesHold_21 : decode cX11_doesHold 21 = .ok (.aload_n 0, 1) := by decide +kernel
theorem dX11_doesHold_22 : decode cX11_doesHold 22 = .ok (.getfield 269, 3) := by decide +kernel
theorem dX11_doesHold_25 : decode cX11_doesHold 25 = .ok (.iload_n 1, 1) := by decide +kernel
theorem dX11_doesHold_26 : decode cX11_doesHold 26 = .ok (.iaload, 1) := by decide +kernel
theorem dX11_doesHold_27 : decode cX11_doesHold 27 = .ok (.if_icmp .lt 7, 3) := by decide +kernel
theorem dX11_doesHold_30 : decode cX11_doesHold 30 = .ok (.iconst 1, 1) := by decide +kernel
theorem dX11_doesHold_31 : decode cX11_doesHold 31 = .ok (.goto 4, 3) := by decide +kernel
theorem dX11_doesHold_34 : decode cX11_doesHold 34 = .ok (.iconst 0, 1) := by decide +kernel
theorem dX11_doesHold_35 : decode cX11_doesHold 35 = .ok (.ireturn, 1) := by decide +kernel
theorem dX11_certify_0 : decode cX11_certify 0 = .ok (.aload_n 0, 1) := by decide +kernel
theorem dX11_certify_1 : decode cX11_certify 1 = .ok (.iload_n 1, 1) := by decide +kernel
theorem dX11_certify_2 : decode cX11_certify 2 = .ok (.aload_n 0, 1) := by decide +kernel
theorem dX11_certify_3 : decode cX11_certify 3 = .ok (.getfield 438, 3) := by decide +kernel
theorem dX11_certify_6 : decode cX11_certify 6 = .ok (.invokevirtual 460, 3) := by decide +kernel
theorem dX11_certify_9 : decode cX11_certify 9 = .ok (.istore_n 2, 1) := by decide +kernel
theorem dX11_certify_10 : decode cX11_certify 10 = .ok (.iload_n 2, 1) := by decide +kernel
theorem dX11_certify_11 : decode cX11_certify 11 = .ok (.iconst 1, 1) := by decide +kernel
theorem dX11_certify_12 : decode cX11_certify 12 = .ok (.if_icmp .lt 12, 3) := by decide +kernel
theorem dX11_certify_15 : decode cX11_certify 15 = .ok (.aload_n 0, 1) := by decide +kernel
theorem dX11_certify_16 : decode cX11_certify 16 = .ok (.getfield 463, 3) := by decide +kernel
theorem dX11_certify_19 : decode cX11_certify 19 = .ok (.bipush 60, 2) := by decide +kernel
theorem dX11_certify_21 : decode cX11_certify 21 = .ok (.if_icmp .ne 5, 3) := by decide +kernel
theorem dX11_certify_24 : decode cX11_certify 24 = .ok (.iconst (-1), 1) := by decide +kernel
theorem dX11_certify_25 : decode cX11_certify 25 = .ok (.ireturn, 1) := by decide +kernel
theorem dX11_certify_26 : decode cX11_certify 26 = .ok (.iconst 1, 1) := by decide +kernel
theorem dX11_certify_27 : decode cX11_certify 27 = .ok (.istore_n 3, 1) := by decide +kernel
theorem dX11_certify_28 : decode cX11_certify 28 = .ok (.iload_n 3, 1) := by decide +kernel
theorem dX11_certify_29 : decode cX11_certify 29 = .ok (.aload_n 0, 1) := by decide +kernel
theorem dX11_certify_30 : decode cX11_certify 30 = .ok (.getfield 463, 3) := by decide +kernel
theorem dX11_certify_33 : decode cX11_certify 33 = .ok (.if_icmp .gt 33, 3) := by decide +kernel
theorem dX11_certify_36 : decode cX11_certify 36 = .ok (.aload_n 0, 1) := by decide +kernel
theorem dX11_certify_37 : decode cX11_certify 37 = .ok (.getfield 263, 3) := by decide +kernel
theorem dX11_certify_40 : decode cX11_certify 40 = .ok (.iload_n 3, 1) := by decide +kernel
theorem dX11_certify_41 : decode cX11_certify 41 = .ok (.iaload, 1) := by decide +kernel
theorem dX11_certify_42 : decode cX11_certify 42 = .ok (.iload_n 1, 1) := by decide +kernel
theorem dX11_certify_43 : decode cX11_certify 43 = .ok (.if_icmp .ne 17, 3) := by decide +kernel
theorem dX11_certify_46 : decode cX11_certify 46 = .ok (.aload_n 0, 1) := by decide +kernel
theorem dX11_certify_47 : decode cX11_certify 47 = .ok (.iload_n 3, 1) := by decide +kernel
theorem dX11_certify_48 : decode cX11_certify 48 = .ok (.aload_n 0, 1) := by decide +kernel
theorem dX11_certify_49 : decode cX11_certify 49 = .ok (.getfield 438, 3) := by decide +kernel
theorem dX11_certify_52 : decode cX11_certify 52 = .ok (.invokevirtual 466, 3) := by decide +kernel
theorem dX11_certify_55 : decode cX11_certify 55 = .ok (.ifCond .eq 5, 3) := by decide +kernel
theorem dX11_certify_58 : decode cX11_certify 58 = .ok (.iconst (-1), 1) := by decide +kernel
theorem dX11_certify_59 : decode cX11_certify 59 = .ok (.ireturn, 1) := by decide +kernel
theorem dX11_certify_60 : decode cX11_certify 60 = .ok (.iinc 3 1, 3) := by decide +kernel
theorem dX11_certify_63 : decode cX11_certify 63 = .ok (.goto (-35), 3) := by decide +kernel
theorem dX11_certify_66 : decode cX11_certify 66 = .ok (.aload_n 0, 1) := by decide +kernel
theorem dX11_certify_67 : decode cX11_certify 67 = .ok (.dup, 1) := by decide +kernel
theorem dX11_certify_68 : decode cX11_certify 68 = .ok (.getfield 463, 3) := by decide +kernel
theorem dX11_certify_71 : decode cX11_certify 71 = .ok (.iconst 1, 1) := by decide +kernel
theorem dX11_certify_72 : decode cX11_certify 72 = .ok (.iadd, 1) := by decide +kernel
theorem dX11_certify_73 : decode cX11_certify 73 = .ok (.putfield 463, 3) := by decide +kernel
theorem dX11_certify_76 : decode cX11_certify 76 = .ok (.aload_n 0, 1) := by decide +kernel
theorem dX11_certify_77 : decode cX11_certify 77 = .ok (.getfield 263, 3) := by decide +kernel
theorem dX11_certify_80 : decode cX11_certify 80 = .ok (.aload_n 0, 1) := by decide +kernel
theorem dX11_certify_81 : decode cX11_certify 81 = .ok (.getfield 463, 3) := by decide +kernel
theorem dX11_certify_84 : decode cX11_certify 84 = .ok (.iload_n 1, 1) := by decide +kernel
theorem dX11_certify_85 : decode cX11_certify 85 = .ok (.iastore, 1) := by decide +kernel
theorem dX11_certify_86 : decode cX11_certify 86 = .ok (.aload_n 0, 1) := by decide +kernel
theorem dX11_certify_87 : decode cX11_certify 87 = .ok (.getfield 266, 3) := by decide +kernel
theorem dX11_certify_90 : decode cX11_certify 90 = .ok (.aload_n 0, 1) := by decide +kernel
theorem dX11_certify_91 : decode cX11_certify 91 = .ok (.getfield 463, 3) := by decide +kernel
theorem dX11_certify_94 : decode cX11_certify 94 = .ok (.aload_n 0, 1) := by decide +kernel
theorem dX11_certify_95 : decode cX11_certify 95 = .ok (.getfield 438, 3) := by decide +kernel
theorem dX11_certify_98 : decode cX11_certify 98 = .ok (.iastore, 1) := by decide +kernel
theorem dX11_certify_99 : decode cX11_certify 99 = .ok (.aload_n 0, 1) := by decide +kernel
theorem dX11_certify_100 : decode cX11_certify 100 = .ok (.getfield 269, 3) := by decide +kernel
theorem dX11_certify_103 : decode cX11_certify 103 = .ok (.aload_n 0, 1) := by decide +kernel
theorem dX11_certify_104 : decode cX11_certify 104 = .ok (.getfield 463, 3) := by decide +kernel
theorem dX11_certify_107 : decode cX11_certify 107 = .ok (.iload_n 2, 1) := by decide +kernel
theorem dX11_certify_108 : decode cX11_certify 108 = .ok (.iastore, 1) := by decide +kernel
theorem dX11_certify_109 : decode cX11_certify 109 = .ok (.aload_n 0, 1) := by decide +kernel
theorem dX11_certify_110 : decode cX11_certify 110 = .ok (.getfield 463, 3) := by decide +kernel
theorem dX11_certify_113 : decode cX11_certify 113 = .ok (.ireturn, 1) := by decide +kernel
theorem dX11_certificate_0 : decode cX11_certificate 0 = .ok (.iload_n 1, 1) := by decide +kernel
theorem dX11_certificate_1 : decode cX11_certificate 1 = .ok (.iconst 1, 1) := by decide +kernel
theorem dX11_certificate_2 : decode cX11_certificate 2 = .ok (.if_icmp .lt 11, 3) := by decide +kernel
theorem dX11_certificate_5 : decode cX11_certificate 5 = .ok (.iload_n 1, 1) := by decide +kernel
theorem dX11_certificate_6 : decode cX11_certificate 6 = .ok (.aload_n 0, 1) := by decide +kernel
theorem dX11_certificate_7 : decode cX11_certificate 7 = .ok (.getfield 463, 3) := by decide +kernel
theorem dX11_certificate_10 : decode cX11_certificate 10 = .ok (.if_icmp .le 5, 3) := by decide +kernel
theorem dX11_certificate_13 : decode cX11_certificate 13 = .ok (.iconst (-1), 1) := by decide +kernel
theorem dX11_certificate_14 : decode cX11_certificate 14 = .ok (.ireturn, 1) := by decide +kernel
theorem dX11_certificate_15 : decode cX11_certificate 15 = .ok (.iload_n 2, 1) := by decide +kernel
theorem dX11_certificate_16 : decode cX11_certificate 16 = .ok (.ifCond .ne 12, 3) := by decide +kernel
theorem dX11_certificate_19 : decode cX11_certificate 19 = .ok (.aload_n 0, 1) := by decide +kernel
theorem dX11_certificate_20 : decode cX11_certificate 20 = .ok (.getfield 263, 3) := by decide +kernel
theorem dX11_certificate_23 : decode cX11_certificate 23 = .ok (.iload_n 1, 1) := by decide +kernel
theorem dX11_certificate_24 : decode cX11_certificate 24 = .ok (.iaload, 1) := by decide +kernel
theorem dX11_certificate_25 : decode cX11_certificate 25 = .ok (.goto 32, 3) := by decide +kernel
theorem dX11_certificate_28 : decode cX11_certificate 28 = .ok (.iload_n 2, 1) := by decide +kernel
theorem dX11_certificate_29 : decode cX11_certificate 29 = .ok (.iconst 1, 1) := by decide +kernel
theorem dX11_certificate_30 : decode cX11_certificate 30 = .ok (.if_icmp .ne 12, 3) := by decide +kernel
theorem dX11_certificate_33 : decode cX11_certificate 33 = .ok (.aload_n 0, 1) := by decide +kernel
theorem dX11_certificate_34 : decode cX11_certificate 34 = .ok (.getfield 266, 3) := by decide +kernel
theorem dX11_certificate_37 : decode cX11_certificate 37 = .ok (.iload_n 1, 1) := by decide +kernel
theorem dX11_certificate_38 : decode cX11_certificate 38 = .ok (.iaload, 1) := by decide +kernel
theorem dX11_certificate_39 : decode cX11_certificate 39 = .ok (.goto 18, 3) := by decide +kernel
theorem dX11_certificate_42 : decode cX11_certificate 42 = .ok (.iload_n 2, 1) := by decide +kernel
theorem dX11_certificate_43 : decode cX11_certificate 43 = .ok (.iconst 2, 1) := by decide +kernel
theorem dX11_certificate_44 : decode cX11_certificate 44 = .ok (.if_icmp .ne 12, 3) := by decide +kernel
theorem dX11_certificate_47 : decode cX11_certificate 47 = .ok (.aload_n 0, 1) := by decide +kernel
theorem dX11_certificate_48 : decode cX11_certificate 48 = .ok (.getfield 269, 3) := by decide +kernel
theorem dX11_certificate_51 : decode cX11_certificate 51 = .ok (.iload_n 1, 1) := by decide +kernel
theorem dX11_certificate_52 : decode cX11_certificate 52 = .ok (.iaload, 1) := by decide +kernel
theorem dX11_certificate_53 : decode cX11_certificate 53 = .ok (.goto 4, 3) := by decide +kernel
theorem dX11_certificate_56 : decode cX11_certificate 56 = .ok (.iconst (-1), 1) := by decide +kernel
theorem dX11_certificate_57 : decode cX11_certificate 57 = .ok (.ireturn, 1) := by decide +kernel
theorem dX11_holds_0 : decode cX11_holds 0 = .ok (.iload_n 1, 1) := by decide +kernel
theorem dX11_holds_1 : decode cX11_holds 1 = .ok (.iconst 1, 1) := by decide +kernel
theorem dX11_holds_2 : decode cX11_holds 2 = .ok (.if_icmp .lt 11, 3) := by decide +kernel
theorem dX11_holds_5 : decode cX11_holds 5 = .ok (.iload_n 1, 1) := by decide +kernel
theorem dX11_holds_6 : decode cX11_holds 6 = .ok (.aload_n 0, 1) := by decide +kernel
theorem dX11_holds_7 : decode cX11_holds 7 = .ok (.getfield 463, 3) := by decide +kernel
theorem dX11_holds_10 : decode cX11_holds 10 = .ok (.if_icmp .le 7, 3) := by decide +kernel
theorem dX11_holds_13 : decode cX11_holds 13 = .ok (.iconst (-1), 1) := by decide +kernel
theorem dX11_holds_14 : decode cX11_holds 14 = .ok (.goto 17, 3) := by decide +kernel
theorem dX11_holds_17 : decode cX11_holds 17 = .ok (.aload_n 0, 1) := by decide +kernel
theorem dX11_holds_18 : decode cX11_holds 18 = .ok (.iload_n 1, 1) := by decide +kernel
theorem dX11_holds_19 : decode cX11_holds 19 = .ok (.iload_n 2, 1) := by decide +kernel
theorem dX11_holds_20 : decode cX11_holds 20 = .ok (.invokevirtual 466, 3) := by decide +kernel
theorem dX11_holds_23 : decode cX11_holds 23 = .ok (.ifCond .eq 7, 3) := by decide +kernel
theorem dX11_holds_26 : decode cX11_holds 26 = .ok (.iconst 1, 1) := by decide +kernel
theorem dX11_holds_27 : decode cX11_holds 27 = .ok (.goto 4, 3) := by decide +kernel
theorem dX11_holds_30 : decode cX11_holds 30 = .ok (.iconst 0, 1) := by decide +kernel
theorem dX11_holds_31 : decode cX11_holds 31 = .ok (.ireturn, 1) := by decide +kernel
theorem dX11_about_0 : decode cX11_about 0 = .ok (.iload_n 1, 1) := by decide +kernel
theorem dX11_about_1 : decode cX11_about 1 = .ok (.tableswitch 87 0 7 #[47, 52, 57, 62, 67, 72, 77, 82], 47) := by decide +kernel
theorem dX11_about_48 : decode cX11_about 48 = .ok (.aload_n 0, 1) := by decide +kernel
theorem dX11_about_49 : decode cX11_about 49 = .ok (.getfield 438, 3) := by decide +kernel
theorem dX11_about_52 : decode cX11_about 52 = .ok (.ireturn, 1) := by decide +kernel
theorem dX11_about_53 : decode cX11_about 53 = .ok (.aload_n 0, 1) := by decide +kernel
theorem dX11_about_54 : decode cX11_about 54 = .ok (.getfield 354, 3) := by decide +kernel
theorem dX11_about_57 : decode cX11_about 57 = .ok (.ireturn, 1) := by decide +kernel
theorem dX11_about_58 : decode cX11_about 58 = .ok (.aload_n 0, 1) := by decide +kernel
theorem dX11_about_59 : decode cX11_about 59 = .ok (.getfield 394, 3) := by decide +kernel
theorem dX11_about_62 : decode cX11_about 62 = .ok (.ireturn, 1) := by decide +kernel
theorem dX11_about_63 : decode cX11_about 63 = .ok (.aload_n 0, 1) := by decide +kernel
theorem dX11_about_64 : decode cX11_about 64 = .ok (.getfield 357, 3) := by decide +kernel
theorem dX11_about_67 : decode cX11_about 67 = .ok (.ireturn, 1) := by decide +kernel
theorem dX11_about_68 : decode cX11_about 68 = .ok (.aload_n 0, 1) := by decide +kernel
theorem dX11_about_69 : decode cX11_about 69 = .ok (.getfield 400, 3) := by decide +kernel
theorem dX11_about_72 : decode cX11_about 72 = .ok (.ireturn, 1) := by decide +kernel
theorem dX11_about_73 : decode cX11_about 73 = .ok (.aload_n 0, 1) := by decide +kernel
theorem dX11_about_74 : decode cX11_about 74 = .ok (.getfield 409, 3) := by decide +kernel
theorem dX11_about_77 : decode cX11_about 77 = .ok (.ireturn, 1) := by decide +kernel
theorem dX11_about_78 : decode cX11_about 78 = .ok (.aload_n 0, 1) := by decide +kernel
theorem dX11_about_79 : decode cX11_about 79 = .ok (.getfield 463, 3) := by decide +kernel
theorem dX11_about_82 : decode cX11_about 82 = .ok (.ireturn, 1) := by decide +kernel
theorem dX11_about_83 : decode cX11_about 83 = .ok (.aload_n 0, 1) := by decide +kernel
theorem dX11_about_84 : decode cX11_about 84 = .ok (.getfield 272, 3) := by decide +kernel
theorem dX11_about_87 : decode cX11_about 87 = .ok (.ireturn, 1) := by decide +kernel
theorem dX11_about_88 : decode cX11_about 88 = .ok (.iload_n 1, 1) := by decide +kernel
theorem dX11_about_89 : decode cX11_about 89 = .ok (.bipush 10, 2) := by decide +kernel
theorem dX11_about_91 : decode cX11_about 91 = .ok (.if_icmp .lt 9, 3) := by decide +kernel
theorem dX11_about_94 : decode cX11_about 94 = .ok (.iload_n 1, 1) := by decide +kernel
theorem dX11_about_95 : decode cX11_about 95 = .ok (.bipush 14, 2) := by decide +kernel
theorem dX11_about_97 : decode cX11_about 97 = .ok (.if_icmp .lt 7, 3) := by decide +kernel
theorem dX11_about_100 : decode cX11_about 100 = .ok (.iconst (-1), 1) := by decide +kernel
theorem dX11_about_101 : decode cX11_about 101 = .ok (.goto 33, 3) := by decide +kernel
theorem dX11_about_104 : decode cX11_about 104 = .ok (.aload_n 0, 1) := by decide +kernel
theorem dX11_about_105 : decode cX11_about 105 = .ok (.getfield 114, 3) := by decide +kernel
theorem dX11_about_108 : decode cX11_about 108 = .ok (.iload_n 1, 1) := by decide +kernel
theorem dX11_about_109 : decode cX11_about 109 = .ok (.bipush 10, 2) := by decide +kernel
theorem dX11_about_111 : decode cX11_about 111 = .ok (.isub, 1) := by decide +kernel
theorem dX11_about_112 : decode cX11_about 112 = .ok (.baload, 1) := by decide +kernel
theorem dX11_about_113 : decode cX11_about 113 = .ok (.ifCond .eq 20, 3) := by decide +kernel
theorem dX11_about_116 : decode cX11_about 116 = .ok (.aload_n 0, 1) := by decide +kernel
theorem dX11_about_117 : decode cX11_about 117 = .ok (.getfield 163, 3) := by decide +kernel
theorem dX11_about_120 : decode cX11_about 120 = .ok (.aload_n 0, 1) := by decide +kernel
theorem dX11_about_121 : decode cX11_about 121 = .ok (.getfield 107, 3) := by decide +kernel
theorem dX11_about_124 : decode cX11_about 124 = .ok (.iload_n 1, 1) := by decide +kernel
theorem dX11_about_125 : decode cX11_about 125 = .ok (.bipush 10, 2) := by decide +kernel
theorem dX11_about_127 : decode cX11_about 127 = .ok (.isub, 1) := by decide +kernel
theorem dX11_about_128 : decode cX11_about 128 = .ok (.iaload, 1) := by decide +kernel
theorem dX11_about_129 : decode cX11_about 129 = .ok (.iaload, 1) := by decide +kernel
theorem dX11_about_130 : decode cX11_about 130 = .ok (.goto 4, 3) := by decide +kernel
theorem dX11_about_133 : decode cX11_about 133 = .ok (.iconst 0, 1) := by decide +kernel
theorem dX11_about_134 : decode cX11_about 134 = .ok (.ireturn, 1) := by decide +kernel
theorem dX11_feed_0 : decode cX11_feed 0 = .ok (.aload_n 0, 1) := by decide +kernel
theorem dX11_feed_1 : decode cX11_feed 1 = .ok (.getfield 272, 3) := by decide +kernel
theorem dX11_feed_4 : decode cX11_feed 4 = .ok (.bipush 20, 2) := by decide +kernel
theorem dX11_feed_6 : decode cX11_feed 6 = .ok (.iadd, 1) := by decide +kernel
theorem dX11_feed_7 : decode cX11_feed 7 = .ok (.sipush 1400, 3) := by decide +kernel
theorem dX11_feed_10 : decode cX11_feed 10 = .ok (.if_icmp .le 5, 3) := by decide +kernel
theorem dX11_feed_13 : decode cX11_feed 13 = .ok (.iconst (-1), 1) := by decide +kernel
theorem dX11_feed_14 : decode cX11_feed 14 = .ok (.ireturn, 1) := by decide +kernel
theorem dX11_feed_15 : decode cX11_feed 15 = .ok (.iconst 0, 1) := by decide +kernel
theorem dX11_feed_16 : decode cX11_feed 16 = .ok (.istore 6, 2) := by decide +kernel
theorem dX11_feed_18 : decode cX11_feed 18 = .ok (.iload 6, 2) := by decide +kernel
theorem dX11_feed_20 : decode cX11_feed 20 = .ok (.bipush 20, 2) := by decide +kernel
theorem dX11_feed_22 : decode cX11_feed 22 = .ok (.if_icmp .ge 83, 3) := by decide +kernel
theorem dX11_feed_25 : decode cX11_feed 25 = .ok (.iload 6, 2) := by decide +kernel
theorem dX11_feed_27 : decode cX11_feed 27 = .ok (.iconst 4, 1) := by decide +kernel
theorem dX11_feed_28 : decode cX11_feed 28 = .ok (.if_icmp .ge 7, 3) := by decide +kernel
theorem dX11_feed_31 : decode cX11_feed 31 = .ok (.iload_n 1, 1) := by decide +kernel
theorem dX11_feed_32 : decode cX11_feed 32 = .ok (.goto 39, 3) := by decide +kernel
theorem dX11_feed_35 : decode cX11_feed 35 = .ok (.iload 6, 2) := by decide +kernel
theorem dX11_feed_37 : decode cX11_feed 37 = .ok (.bipush 8, 2) := by decide +kernel
theorem dX11_feed_39 : decode cX11_feed 39 = .ok (.if_icmp .ge 7, 3) := by decide +kernel
theorem dX11_feed_42 : decode cX11_feed 42 = .ok (.iload_n 2, 1) := by decide +kernel
theorem dX11_feed_43 : decode cX11_feed 43 = .ok (.goto 28, 3) := by decide +kernel
theorem dX11_feed_46 : decode cX11_feed 46 = .ok (.iload 6, 2) := by decide +kernel
theorem dX11_feed_48 : decode cX11_feed 48 = .ok (.bipush 12, 2) := by decide +kernel
theorem dX11_feed_50 : decode cX11_feed 50 = .ok (.if_icmp .ge 7, 3) := by decide +kernel
theorem dX11_feed_53 : decode cX11_feed 53 = .ok (.iload_n 3, 1) := by decide +kernel
theorem dX11_feed_54 : decode cX11_feed 54 = .ok (.goto 17, 3) := by decide +kernel
theorem dX11_feed_57 : decode cX11_feed 57 = .ok (.iload 6, 2) := by decide +kernel
theorem dX11_feed_59 : decode cX11_feed 59 = .ok (.bipush 16, 2) := by decide +kernel
theorem dX11_feed_61 : decode cX11_feed 61 = .ok (.if_icmp .ge 8, 3) := by decide +kernel
theorem dX11_feed_64 : decode cX11_feed 64 = .ok (.iload 4, 2) := by decide +kernel
theorem dX11_feed_66 : decode cX11_feed 66 = .ok (.goto 5, 3) := by decide +kernel
theorem dX11_feed_69 : decode cX11_feed 69 = .ok (.iload 5, 2) := by decide +kernel
theorem dX11_feed_71 : decode cX11_feed 71 = .ok (.istore 7, 2) := by decide +kernel
theorem dX11_feed_73 : decode cX11_feed 73 = .ok (.aload_n 0, 1) := by decide +kernel
theorem dX11_feed_74 : decode cX11_feed 74 = .ok (.getfield 104, 3) := by decide +kernel
theorem dX11_feed_77 : decode cX11_feed 77 = .ok (.aload_n 0, 1) := by decide +kernel
theorem dX11_feed_78 : decode cX11_feed 78 = .ok (.getfield 272, 3) := by decide +kernel
theorem dX11_feed_81 : decode cX11_feed 81 = .ok (.iload 6, 2) := by decide +kernel
theorem dX11_feed_83 : decode cX11_feed 83 = .ok (.iadd, 1) := by decide +kernel
theorem dX11_feed_84 : decode cX11_feed 84 = .ok (.iload 7, 2) := by decide +kernel
theorem dX11_feed_86 : decode cX11_feed 86 = .ok (.bipush 24, 2) := by decide +kernel
theorem dX11_feed_88 : decode cX11_feed 88 = .ok (.bipush 8, 2) := by decide +kernel
theorem dX11_feed_90 : decode cX11_feed 90 = .ok (.iload 6, 2) := by decide +kernel
theorem dX11_feed_92 : decode cX11_feed 92 = .ok (.iconst 3, 1) := by decide +kernel
theorem dX11_feed_93 : decode cX11_feed 93 = .ok (.iand, 1) := by decide +kernel
theorem dX11_feed_94 : decode cX11_feed 94 = .ok (.imul, 1) := by decide +kernel
theorem dX11_feed_95 : decode cX11_feed 95 = .ok (.isub, 1) := by decide +kernel
theorem dX11_feed_96 : decode cX11_feed 96 = .ok (.ishr, 1) := by decide +kernel
theorem dX11_feed_97 : decode cX11_feed 97 = .ok (.i2b, 1) := by decide +kernel
theorem dX11_feed_98 : decode cX11_feed 98 = .ok (.bastore, 1) := by decide +kernel
theorem dX11_feed_99 : decode cX11_feed 99 = .ok (.iinc 6 1, 3) := by decide +kernel
theorem dX11_feed_102 : decode cX11_feed 102 = .ok (.goto (-84), 3) := by decide +kernel
theorem dX11_feed_105 : decode cX11_feed 105 = .ok (.aload_n 0, 1) := by decide +kernel
theorem dX11_feed_106 : decode cX11_feed 106 = .ok (.dup, 1) := by decide +kernel
theorem dX11_feed_107 : decode cX11_feed 107 = .ok (.getfield 272, 3) := by decide +kernel
theorem dX11_feed_110 : decode cX11_feed 110 = .ok (.bipush 20, 2) := by decide +kernel
theorem dX11_feed_112 : decode cX11_feed 112 = .ok (.iadd, 1) := by decide +kernel
theorem dX11_feed_113 : decode cX11_feed 113 = .ok (.putfield 272, 3) := by decide +kernel
theorem dX11_feed_116 : decode cX11_feed 116 = .ok (.aload_n 0, 1) := by decide +kernel
theorem dX11_feed_117 : decode cX11_feed 117 = .ok (.getfield 272, 3) := by decide +kernel
theorem dX11_feed_120 : decode cX11_feed 120 = .ok (.ireturn, 1) := by decide +kernel
theorem dX11_end_0 : decode cX11_end 0 = .ok (.iload_n 1, 1) := by decide +kernel
theorem dX11_end_1 : decode cX11_end 1 = .ok (.ifCond .lt 11, 3) := by decide +kernel
theorem dX11_end_4 : decode cX11_end 4 = .ok (.iload_n 1, 1) := by decide +kernel
theorem dX11_end_5 : decode cX11_end 5 = .ok (.aload_n 0, 1) := by decide +kernel
theorem dX11_end_6 : decode cX11_end 6 = .ok (.getfield 272, 3) := by decide +kernel
theorem dX11_end_9 : decode cX11_end 9 = .ok (.if_icmp .le 5, 3) := by decide +kernel
theorem dX11_end_12 : decode cX11_end 12 = .ok (.iconst (-1), 1) := by decide +kernel
theorem dX11_end_13 : decode cX11_end 13 = .ok (.ireturn, 1) := by decide +kernel
theorem dX11_end_14 : decode cX11_end 14 = .ok (.aload_n 0, 1) := by decide +kernel
theorem dX11_end_15 : decode cX11_end 15 = .ok (.iload_n 1, 1) := by decide +kernel
theorem dX11_end_16 : decode cX11_end 16 = .ok (.putfield 272, 3) := by decide +kernel
theorem dX11_end_19 : decode cX11_end 19 = .ok (.iload_n 1, 1) := by decide +kernel
theorem dX11_end_20 : decode cX11_end 20 = .ok (.ireturn, 1) := by decide +kernel
theorem dJ9_max_7cf53_0 : decode cJ9_max_7cf53 0 = .ok (.iload_n 0, 1) := by decide +kernel
theorem dJ9_max_7cf53_1 : decode cJ9_max_7cf53 1 = .ok (.iload_n 1, 1) := by decide +kernel
theorem dJ9_max_7cf53_2 : decode cJ9_max_7cf53 2 = .ok (.if_icmp .lt 7, 3) := by decide +kernel
theorem dJ9_max_7cf53_5 : decode cJ9_max_7cf53 5 = .ok (.iload_n 0, 1) := by decide +kernel
theorem dJ9_max_7cf53_6 : decode cJ9_max_7cf53 6 = .ok (.goto 4, 3) := by decide +kernel
theorem dJ9_max_7cf53_9 : decode cJ9_max_7cf53 9 = .ok (.iload_n 1, 1) := by decide +kernel
theorem dJ9_max_7cf53_10 : decode cJ9_max_7cf53 10 = .ok (.ireturn, 1) := by decide +kernel
theorem dJ9_min_7cf53_0 : decode cJ9_min_7cf53 0 = .ok (.iload_n 0, 1) := by decide +kernel
theorem dJ9_min_7cf53_1 : decode cJ9_min_7cf53 1 = .ok (.iload_n 1, 1) := by decide +kernel
theorem dJ9_min_7cf53_2 : decode cJ9_min_7cf53 2 = .ok (.if_icmp .gt 7, 3) := by decide +kernel
theorem dJ9_min_7cf53_5 : decode cJ9_min_7cf53 5 = .ok (.iload_n 0, 1) := by decide +kernel
theorem dJ9_min_7cf53_6 : decode cJ9_min_7cf53 6 = .ok (.goto 4, 3) := by decide +kernel
theorem dJ9_min_7cf53_9 : decode cJ9_min_7cf53 9 = .ok (.iload_n 1, 1) := by decide +kernel
theorem dJ9_min_7cf53_10 : decode cJ9_min_7cf53 10 = .ok (.ireturn, 1) := by decide +kernel
theorem dJ9_min_f86c9_0 : decode cJ9_min_f86c9 0 = .ok (.lload_n 0, 1) := by decide +kernel
theorem dJ9_min_f86c9_1 : decode cJ9_min_f86c9 1 = .ok (.lload_n 2, 1) := by decide +kernel
theorem dJ9_min_f86c9_2 : decode cJ9_min_f86c9 2 = .ok (.lcmp, 1) := by decide +kernel
theorem dJ9_min_f86c9_3 : decode cJ9_min_f86c9 3 = .ok (.ifCond .gt 7, 3) := by decide +kernel
theorem dJ9_min_f86c9_6 : decode cJ9_min_f86c9 6 = .ok (.lload_n 0, 1) := by decide +kernel
theorem dJ9_min_f86c9_7 : decode cJ9_min_f86c9 7 = .ok (.goto 4, 3) := by decide +kernel
theorem dJ9_min_f86c9_10 : decode cJ9_min_f86c9 10 = .ok (.lload_n 2, 1) := by decide +kernel
theorem dJ9_min_f86c9_11 : decode cJ9_min_f86c9 11 = .ok (.lreturn, 1) := by decide +kernel
theorem dL_law_0 : decode cL_law 0 = .ok (.new 7, 3) := by decide +kernel
theorem dL_law_3 : decode cL_law 3 = .ok (.dup, 1) := by decide +kernel
theorem dL_law_4 : decode cL_law 4 = .ok (.invokespecial 9, 3) := by decide +kernel
theorem dL_law_7 : decode cL_law 7 = .ok (.astore_n 1, 1) := by decide +kernel
theorem dL_law_8 : decode cL_law 8 = .ok (.new 10, 3) := by decide +kernel
theorem dL_law_11 : decode cL_law 11 = .ok (.dup, 1) := by decide +kernel
theorem dL_law_12 : decode cL_law 12 = .ok (.invokespecial 12, 3) := by decide +kernel
theorem dL_law_15 : decode cL_law 15 = .ok (.astore_n 2, 1) := by decide +kernel
theorem dL_law_16 : decode cL_law 16 = .ok (.iconst 0, 1) := by decide +kernel
theorem dL_law_17 : decode cL_law 17 = .ok (.istore_n 3, 1) := by decide +kernel
theorem dL_law_18 : decode cL_law 18 = .ok (.iload_n 3, 1) := by decide +kernel
theorem dL_law_19 : decode cL_law 19 = .ok (.aload_n 0, 1) := by decide +kernel
theorem dL_law_20 : decode cL_law 20 = .ok (.arraylength, 1) := by decide +kernel
theorem dL_law_21 : decode cL_law 21 = .ok (.bipush 7, 2) := by decide +kernel
theorem dL_law_23 : decode cL_law 23 = .ok (.isub, 1) := by decide +kernel
theorem dL_law_24 : decode cL_law 24 = .ok (.if_icmp .gt 1142, 3) := by decide +kernel
theorem dL_law_27 : decode cL_law 27 = .ok (.aload_n 0, 1) := by decide +kernel
theorem dL_law_28 : decode cL_law 28 = .ok (.iload_n 3, 1) := by decide +kernel
theorem dL_law_29 : decode cL_law 29 = .ok (.iaload, 1) := by decide +kernel
theorem dL_law_30 : decode cL_law 30 = .ok (.bipush 31, 2) := by decide +kernel
theorem dL_law_32 : decode cL_law 32 = .ok (.iand, 1) := by decide +kernel
theorem dL_law_33 : decode cL_law 33 = .ok (.tableswitch 1127 0 29 #[135, 198, 221, 244, 267, 310, 385, 448, 471, 484, 527, 560, 593, 626, 659, 692, 705, 728, 741, 764, 817, 860, 883, 926, 959, 992, 1015, 1038, 1071, 1104], 135) := by decide +kernel
theorem dL_law_168 : decode cL_law 168 = .ok (.aload_n 1, 1) := by decide +kernel
theorem dL_law_169 : decode cL_law 169 = .ok (.aload_n 0, 1) := by decide +kernel
theorem dL_law_170 : decode cL_law 170 = .ok (.iload_n 3, 1) := by decide +kernel
theorem dL_law_171 : decode cL_law 171 = .ok (.iconst 1, 1) := by decide +kernel
theorem dL_law_172 : decode cL_law 172 = .ok (.iadd, 1) := by decide +kernel
theorem dL_law_173 : decode cL_law 173 = .ok (.iaload, 1) := by decide +kernel
theorem dL_law_174 : decode cL_law 174 = .ok (.aload_n 0, 1) := by decide +kernel
theorem dL_law_175 : decode cL_law 175 = .ok (.iload_n 3, 1) := by decide +kernel
theorem dL_law_176 : decode cL_law 176 = .ok (.iconst 2, 1) := by decide +kernel
theorem dL_law_177 : decode cL_law 177 = .ok (.iadd, 1) := by decide +kernel
theorem dL_law_178 : decode cL_law 178 = .ok (.iaload, 1) := by decide +kernel
theorem dL_law_179 : decode cL_law 179 = .ok (.aload_n 0, 1) := by decide +kernel
theorem dL_law_180 : decode cL_law 180 = .ok (.iload_n 3, 1) := by decide +kernel
theorem dL_law_181 : decode cL_law 181 = .ok (.iconst 3, 1) := by decide +kernel
theorem dL_law_182 : decode cL_law 182 = .ok (.iadd, 1) := by decide +kernel
theorem dL_law_183 : decode cL_law 183 = .ok (.iaload, 1) := by decide +kernel
theorem dL_law_184 : decode cL_law 184 = .ok (.aload_n 0, 1) := by decide +kernel
theorem dL_law_185 : decode cL_law 185 = .ok (.iload_n 3, 1) := by decide +kernel
theorem dL_law_186 : decode cL_law 186 = .ok (.iconst 4, 1) := by decide +kernel
theorem dL_law_187 : decode cL_law 187 = .ok (.iadd, 1) := by decide +kernel
theorem dL_law_188 : decode cL_law 188 = .ok (.iaload, 1) := by decide +kernel
theorem dL_law_189 : decode cL_law 189 = .ok (.aload_n 0, 1) := by decide +kernel
theorem dL_law_190 : decode cL_law 190 = .ok (.iload_n 3, 1) := by decide +kernel
theorem dL_law_191 : decode cL_law 191 = .ok (.iconst 5, 1) := by decide +kernel
theorem dL_law_192 : decode cL_law 192 = .ok (.iadd, 1) := by decide +kernel
theorem dL_law_193 : decode cL_law 193 = .ok (.iaload, 1) := by decide +kernel
theorem dL_law_194 : decode cL_law 194 = .ok (.invokevirtual 13, 3) := by decide +kernel
theorem dL_law_197 : decode cL_law 197 = .ok (.aload_n 2, 1) := by decide +kernel
theorem dL_law_198 : decode cL_law 198 = .ok (.aload_n 0, 1) := by decide +kernel
theorem dL_law_199 : decode cL_law 199 = .ok (.iload_n 3, 1) := by decide +kernel
theorem dL_law_200 : decode cL_law 200 = .ok (.iconst 1, 1) := by decide +kernel
theorem dL_law_201 : decode cL_law 201 = .ok (.iadd, 1) := by decide +kernel
theorem dL_law_202 : decode cL_law 202 = .ok (.iaload, 1) := by decide +kernel
theorem dL_law_203 : decode cL_law 203 = .ok (.aload_n 0, 1) := by decide +kernel
theorem dL_law_204 : decode cL_law 204 = .ok (.iload_n 3, 1) := by decide +kernel
theorem dL_law_205 : decode cL_law 205 = .ok (.iconst 2, 1) := by decide +kernel
theorem dL_law_206 : decode cL_law 206 = .ok (.iadd, 1) := by decide +kernel
theorem dL_law_207 : decode cL_law 207 = .ok (.iaload, 1) := by decide +kernel
theorem dL_law_208 : decode cL_law 208 = .ok (.aload_n 0, 1) := by decide +kernel
theorem dL_law_209 : decode cL_law 209 = .ok (.iload_n 3, 1) := by decide +kernel
theorem dL_law_210 : decode cL_law 210 = .ok (.iconst 3, 1) := by decide +kernel
theorem dL_law_211 : decode cL_law 211 = .ok (.iadd, 1) := by decide +kernel
theorem dL_law_212 : decode cL_law 212 = .ok (.iaload, 1) := by decide +kernel
theorem dL_law_213 : decode cL_law 213 = .ok (.aload_n 0, 1) := by decide +kernel
theorem dL_law_214 : decode cL_law 214 = .ok (.iload_n 3, 1) := by decide +kernel
theorem dL_law_215 : decode cL_law 215 = .ok (.iconst 4, 1) := by decide +kernel
theorem dL_law_216 : decode cL_law 216 = .ok (.iadd, 1) := by decide +kernel
theorem dL_law_217 : decode cL_law 217 = .ok (.iaload, 1) := by decide +kernel
theorem dL_law_218 : decode cL_law 218 = .ok (.aload_n 0, 1) := by decide +kernel
theorem dL_law_219 : decode cL_law 219 = .ok (.iload_n 3, 1) := by decide +kernel
theorem dL_law_220 : decode cL_law 220 = .ok (.iconst 5, 1) := by decide +kernel
theorem dL_law_221 : decode cL_law 221 = .ok (.iadd, 1) := by decide +kernel
theorem dL_law_222 : decode cL_law 222 = .ok (.iaload, 1) := by decide +kernel
theorem dL_law_223 : decode cL_law 223 = .ok (.invokevirtual 17, 3) := by decide +kernel
theorem dL_law_226 : decode cL_law 226 = .ok (.if_icmp .eq 934, 3) := by decide +kernel
theorem dL_law_229 : decode cL_law 229 = .ok (.iconst 0, 1) := by decide +kernel
theorem dL_law_230 : decode cL_law 230 = .ok (.ireturn, 1) := by decide +kernel
theorem dL_law_231 : decode cL_law 231 = .ok (.aload_n 1, 1) := by decide +kernel
theorem dL_law_232 : decode cL_law 232 = .ok (.aload_n 0, 1) := by decide +kernel
theorem dL_law_233 : decode cL_law 233 = .ok (.iload_n 3, 1) := by decide +kernel
theorem dL_law_234 : decode cL_law 234 = .ok (.iconst 1, 1) := by decide +kernel
theorem dL_law_235 : decode cL_law 235 = .ok (.iadd, 1) := by decide +kernel
theorem dL_law_236 : decode cL_law 236 = .ok (.iaload, 1) := by decide +kernel
theorem dL_law_237 : decode cL_law 237 = .ok (.invokevirtual 18, 3) := by decide +kernel
theorem dL_law_240 : decode cL_law 240 = .ok (.aload_n 2, 1) := by decide +kernel
theorem dL_law_241 : decode cL_law 241 = .ok (.aload_n 0, 1) := by decide +kernel
theorem dL_law_242 : decode cL_law 242 = .ok (.iload_n 3, 1) := by decide +kernel
theorem dL_law_243 : decode cL_law 243 = .ok (.iconst 1, 1) := by decide +kernel
theorem dL_law_244 : decode cL_law 244 = .ok (.iadd, 1) := by decide +kernel
theorem dL_law_245 : decode cL_law 245 = .ok (.iaload, 1) := by decide +kernel
theorem dL_law_246 : decode cL_law 246 = .ok (.invokevirtual 22, 3) := by decide +kernel
theorem dL_law_249 : decode cL_law 249 = .ok (.if_icmp .eq 911, 3) := by decide +kernel
theorem dL_law_252 : decode cL_law 252 = .ok (.iconst 0, 1) := by decide +kernel
theorem dL_law_253 : decode cL_law 253 = .ok (.ireturn, 1) := by decide +kernel
theorem dL_law_254 : decode cL_law 254 = .ok (.aload_n 1, 1) := by decide +kernel
theorem dL_law_255 : decode cL_law 255 = .ok (.aload_n 0, 1) := by decide +kernel
theorem dL_law_256 : decode cL_law 256 = .ok (.iload_n 3, 1) := by decide +kernel
theorem dL_law_257 : decode cL_law 257 = .ok (.iconst 1, 1) := by decide +kernel
theorem dL_law_258 : decode cL_law 258 = .ok (.iadd, 1) := by decide +kernel
theorem dL_law_259 : decode cL_law 259 = .ok (.iaload, 1) := by decide +kernel
theorem dL_law_260 : decode cL_law 260 = .ok (.invokevirtual 23, 3) := by decide +kernel
theorem dL_law_263 : decode cL_law 263 = .ok (.aload_n 2, 1) := by decide +kernel
theorem dL_law_264 : decode cL_law 264 = .ok (.aload_n 0, 1) := by decide +kernel
theorem dL_law_265 : decode cL_law 265 = .ok (.iload_n 3, 1) := by decide +kernel
theorem dL_law_266 : decode cL_law 266 = .ok (.iconst 1, 1) := by decide +kernel
theorem dL_law_267 : decode cL_law 267 = .ok (.iadd, 1) := by decide +kernel
theorem dL_law_268 : decode cL_law 268 = .ok (.iaload, 1) := by decide +kernel
theorem dL_law_269 : decode cL_law 269 = .ok (.invokevirtual 26, 3) := by decide +kernel
theorem dL_law_272 : decode cL_law 272 = .ok (.if_icmp .eq 888, 3) := by decide +kernel
theorem dL_law_275 : decode cL_law 275 = .ok (.iconst 0, 1) := by decide +kernel
theorem dL_law_276 : decode cL_law 276 = .ok (.ireturn, 1) := by decide +kernel
theorem dL_law_277 : decode cL_law 277 = .ok (.aload_n 1, 1) := by decide +kernel
theorem dL_law_278 : decode cL_law 278 = .ok (.aload_n 0, 1) := by decide +kernel
theorem dL_law_279 : decode cL_law 279 = .ok (.iload_n 3, 1) := by decide +kernel
theorem dL_law_280 : decode cL_law 280 = .ok (.iconst 1, 1) := by decide +kernel
theorem dL_law_281 : decode cL_law 281 = .ok (.iadd, 1) := by decide +kernel
theorem dL_law_282 : decode cL_law 282 = .ok (.iaload, 1) := by decide +kernel
theorem dL_law_283 : decode cL_law 283 = .ok (.invokevirtual 27, 3) := by decide +kernel
theorem dL_law_286 : decode cL_law 286 = .ok (.aload_n 2, 1) := by decide +kernel
theorem dL_law_287 : decode cL_law 287 = .ok (.aload_n 0, 1) := by decide +kernel
theorem dL_law_288 : decode cL_law 288 = .ok (.iload_n 3, 1) := by decide +kernel
theorem dL_law_289 : decode cL_law 289 = .ok (.iconst 1, 1) := by decide +kernel
theorem dL_law_290 : decode cL_law 290 = .ok (.iadd, 1) := by decide +kernel
theorem dL_law_291 : decode cL_law 291 = .ok (.iaload, 1) := by decide +kernel
theorem dL_law_292 : decode cL_law 292 = .ok (.invokevirtual 30, 3) := by decide +kernel
theorem dL_law_295 : decode cL_law 295 = .ok (.if_icmp .eq 865, 3) := by decide +kernel
theorem dL_law_298 : decode cL_law 298 = .ok (.iconst 0, 1) := by decide +kernel
theorem dL_law_299 : decode cL_law 299 = .ok (.ireturn, 1) := by decide +kernel
theorem dL_law_300 : decode cL_law 300 = .ok (.aload_n 1, 1) := by decide +kernel
theorem dL_law_301 : decode cL_law 301 = .ok (.aload_n 0, 1) := by decide +kernel
theorem dL_law_302 : decode cL_law 302 = .ok (.iload_n 3, 1) := by decide +kernel
theorem dL_law_303 : decode cL_law 303 = .ok (.iconst 1, 1) := by decide +kernel
theorem dL_law_304 : decode cL_law 304 = .ok (.iadd, 1) := by decide +kernel
theorem dL_law_305 : decode cL_law 305 = .ok (.iaload, 1) := by decide +kernel
theorem dL_law_306 : decode cL_law 306 = .ok (.aload_n 0, 1) := by decide +kernel
theorem dL_law_307 : decode cL_law 307 = .ok (.iload_n 3, 1) := by decide +kernel
theorem dL_law_308 : decode cL_law 308 = .ok (.iconst 2, 1) := by decide +kernel
theorem dL_law_309 : decode cL_law 309 = .ok (.iadd, 1) := by decide +kernel
theorem dL_law_310 : decode cL_law 310 = .ok (.iaload, 1) := by decide +kernel
theorem dL_law_311 : decode cL_law 311 = .ok (.aload_n 0, 1) := by decide +kernel
theorem dL_law_312 : decode cL_law 312 = .ok (.iload_n 3, 1) := by decide +kernel
theorem dL_law_313 : decode cL_law 313 = .ok (.iconst 3, 1) := by decide +kernel
theorem dL_law_314 : decode cL_law 314 = .ok (.iadd, 1) := by decide +kernel
theorem dL_law_315 : decode cL_law 315 = .ok (.iaload, 1) := by decide +kernel
theorem dL_law_316 : decode cL_law 316 = .ok (.invokevirtual 31, 3) := by decide +kernel
theorem dL_law_319 : decode cL_law 319 = .ok (.aload_n 2, 1) := by decide +kernel
theorem dL_law_320 : decode cL_law 320 = .ok (.aload_n 0, 1) := by decide +kernel
theorem dL_law_321 : decode cL_law 321 = .ok (.iload_n 3, 1) := by decide +kernel
theorem dL_law_322 : decode cL_law 322 = .ok (.iconst 1, 1) := by decide +kernel
theorem dL_law_323 : decode cL_law 323 = .ok (.iadd, 1) := by decide +kernel
theorem dL_law_324 : decode cL_law 324 = .ok (.iaload, 1) := by decide +kernel
theorem dL_law_325 : decode cL_law 325 = .ok (.aload_n 0, 1) := by decide +kernel
theorem dL_law_326 : decode cL_law 326 = .ok (.iload_n 3, 1) := by decide +kernel
theorem dL_law_327 : decode cL_law 327 = .ok (.iconst 2, 1) := by decide +kernel
theorem dL_law_328 : decode cL_law 328 = .ok (.iadd, 1) := by decide +kernel
theorem dL_law_329 : decode cL_law 329 = .ok (.iaload, 1) := by decide +kernel
theorem dL_law_330 : decode cL_law 330 = .ok (.aload_n 0, 1) := by decide +kernel
theorem dL_law_331 : decode cL_law 331 = .ok (.iload_n 3, 1) := by decide +kernel
theorem dL_law_332 : decode cL_law 332 = .ok (.iconst 3, 1) := by decide +kernel
theorem dL_law_333 : decode cL_law 333 = .ok (.iadd, 1) := by decide +kernel
theorem dL_law_334 : decode cL_law 334 = .ok (.iaload, 1) := by decide +kernel
theorem dL_law_335 : decode cL_law 335 = .ok (.invokevirtual 35, 3) := by decide +kernel
theorem dL_law_338 : decode cL_law 338 = .ok (.if_icmp .eq 822, 3) := by decide +kernel
theorem dL_law_341 : decode cL_law 341 = .ok (.iconst 0, 1) := by decide +kernel
theorem dL_law_342 : decode cL_law 342 = .ok (.ireturn, 1) := by decide +kernel
theorem dL_law_343 : decode cL_law 343 = .ok (.aload_n 1, 1) := by decide +kernel
theorem dL_law_344 : decode cL_law 344 = .ok (.aload_n 0, 1) := by decide +kernel
theorem dL_law_345 : decode cL_law 345 = .ok (.iload_n 3, 1) := by decide +kernel
theorem dL_law_346 : decode cL_law 346 = .ok (.iconst 1, 1) := by decide +kernel
theorem dL_law_347 : decode cL_law 347 = .ok (.iadd, 1) := by decide +kernel
theorem dL_law_348 : decode cL_law 348 = .ok (.iaload, 1) := by decide +kernel
theorem dL_law_349 : decode cL_law 349 = .ok (.aload_n 0, 1) := by decide +kernel
theorem dL_law_350 : decode cL_law 350 = .ok (.iload_n 3, 1) := by decide +kernel
theorem dL_law_351 : decode cL_law 351 = .ok (.iconst 2, 1) := by decide +kernel
theorem dL_law_352 : decode cL_law 352 = .ok (.iadd, 1) := by decide +kernel
theorem dL_law_353 : decode cL_law 353 = .ok (.iaload, 1) := by decide +kernel
theorem dL_law_354 : decode cL_law 354 = .ok (.aload_n 0, 1) := by decide +kernel
theorem dL_law_355 : decode cL_law 355 = .ok (.iload_n 3, 1) := by decide +kernel
theorem dL_law_356 : decode cL_law 356 = .ok (.iconst 3, 1) := by decide +kernel
theorem dL_law_357 : decode cL_law 357 = .ok (.iadd, 1) := by decide +kernel
theorem dL_law_358 : decode cL_law 358 = .ok (.iaload, 1) := by decide +kernel
theorem dL_law_359 : decode cL_law 359 = .ok (.aload_n 0, 1) := by decide +kernel
theorem dL_law_360 : decode cL_law 360 = .ok (.iload_n 3, 1) := by decide +kernel
theorem dL_law_361 : decode cL_law 361 = .ok (.iconst 4, 1) := by decide +kernel
theorem dL_law_362 : decode cL_law 362 = .ok (.iadd, 1) := by decide +kernel
theorem dL_law_363 : decode cL_law 363 = .ok (.iaload, 1) := by decide +kernel
theorem dL_law_364 : decode cL_law 364 = .ok (.aload_n 0, 1) := by decide +kernel
theorem dL_law_365 : decode cL_law 365 = .ok (.iload_n 3, 1) := by decide +kernel
theorem dL_law_366 : decode cL_law 366 = .ok (.iconst 5, 1) := by decide +kernel
theorem dL_law_367 : decode cL_law 367 = .ok (.iadd, 1) := by decide +kernel
theorem dL_law_368 : decode cL_law 368 = .ok (.iaload, 1) := by decide +kernel
theorem dL_law_369 : decode cL_law 369 = .ok (.aload_n 0, 1) := by decide +kernel
theorem dL_law_370 : decode cL_law 370 = .ok (.iload_n 3, 1) := by decide +kernel
theorem dL_law_371 : decode cL_law 371 = .ok (.bipush 6, 2) := by decide +kernel
theorem dL_law_373 : decode cL_law 373 = .ok (.iadd, 1) := by decide +kernel
theorem dL_law_374 : decode cL_law 374 = .ok (.iaload, 1) := by decide +kernel
theorem dL_law_375 : decode cL_law 375 = .ok (.invokevirtual 36, 3) := by decide +kernel
theorem dL_law_378 : decode cL_law 378 = .ok (.aload_n 2, 1) := by decide +kernel
theorem dL_law_379 : decode cL_law 379 = .ok (.aload_n 0, 1) := by decide +kernel
theorem dL_law_380 : decode cL_law 380 = .ok (.iload_n 3, 1) := by decide +kernel
theorem dL_law_381 : decode cL_law 381 = .ok (.iconst 1, 1) := by decide +kernel
theorem dL_law_382 : decode cL_law 382 = .ok (.iadd, 1) := by decide +kernel
theorem dL_law_383 : decode cL_law 383 = .ok (.iaload, 1) := by decide +kernel
theorem dL_law_384 : decode cL_law 384 = .ok (.aload_n 0, 1) := by decide +kernel
theorem dL_law_385 : decode cL_law 385 = .ok (.iload_n 3, 1) := by decide +kernel
theorem dL_law_386 : decode cL_law 386 = .ok (.iconst 2, 1) := by decide +kernel
theorem dL_law_387 : decode cL_law 387 = .ok (.iadd, 1) := by decide +kernel
theorem dL_law_388 : decode cL_law 388 = .ok (.iaload, 1) := by decide +kernel
theorem dL_law_389 : decode cL_law 389 = .ok (.aload_n 0, 1) := by decide +kernel
theorem dL_law_390 : decode cL_law 390 = .ok (.iload_n 3, 1) := by decide +kernel
theorem dL_law_391 : decode cL_law 391 = .ok (.iconst 3, 1) := by decide +kernel
theorem dL_law_392 : decode cL_law 392 = .ok (.iadd, 1) := by decide +kernel
theorem dL_law_393 : decode cL_law 393 = .ok (.iaload, 1) := by decide +kernel
theorem dL_law_394 : decode cL_law 394 = .ok (.aload_n 0, 1) := by decide +kernel
theorem dL_law_395 : decode cL_law 395 = .ok (.iload_n 3, 1) := by decide +kernel
theorem dL_law_396 : decode cL_law 396 = .ok (.iconst 4, 1) := by decide +kernel
theorem dL_law_397 : decode cL_law 397 = .ok (.iadd, 1) := by decide +kernel
theorem dL_law_398 : decode cL_law 398 = .ok (.iaload, 1) := by decide +kernel
theorem dL_law_399 : decode cL_law 399 = .ok (.aload_n 0, 1) := by decide +kernel
theorem dL_law_400 : decode cL_law 400 = .ok (.iload_n 3, 1) := by decide +kernel
theorem dL_law_401 : decode cL_law 401 = .ok (.iconst 5, 1) := by decide +kernel
theorem dL_law_402 : decode cL_law 402 = .ok (.iadd, 1) := by decide +kernel
theorem dL_law_403 : decode cL_law 403 = .ok (.iaload, 1) := by decide +kernel
theorem dL_law_404 : decode cL_law 404 = .ok (.aload_n 0, 1) := by decide +kernel
theorem dL_law_405 : decode cL_law 405 = .ok (.iload_n 3, 1) := by decide +kernel
theorem dL_law_406 : decode cL_law 406 = .ok (.bipush 6, 2) := by decide +kernel
theorem dL_law_408 : decode cL_law 408 = .ok (.iadd, 1) := by decide +kernel
theorem dL_law_409 : decode cL_law 409 = .ok (.iaload, 1) := by decide +kernel
theorem dL_law_410 : decode cL_law 410 = .ok (.invokevirtual 40, 3) := by decide +kernel
theorem dL_law_413 : decode cL_law 413 = .ok (.if_icmp .eq 747, 3) := by decide +kernel
theorem dL_law_416 : decode cL_law 416 = .ok (.iconst 0, 1) := by decide +kernel
theorem dL_law_417 : decode cL_law 417 = .ok (.ireturn, 1) := by decide +kernel
theorem dL_law_418 : decode cL_law 418 = .ok (.aload_n 1, 1) := by decide +kernel
theorem dL_law_419 : decode cL_law 419 = .ok (.aload_n 0, 1) := by decide +kernel
theorem dL_law_420 : decode cL_law 420 = .ok (.iload_n 3, 1) := by decide +kernel
theorem dL_law_421 : decode cL_law 421 = .ok (.iconst 1, 1) := by decide +kernel
theorem dL_law_422 : decode cL_law 422 = .ok (.iadd, 1) := by decide +kernel
theorem dL_law_423 : decode cL_law 423 = .ok (.iaload, 1) := by decide +kernel
theorem dL_law_424 : decode cL_law 424 = .ok (.aload_n 0, 1) := by decide +kernel
theorem dL_law_425 : decode cL_law 425 = .ok (.iload_n 3, 1) := by decide +kernel
theorem dL_law_426 : decode cL_law 426 = .ok (.iconst 2, 1) := by decide +kernel
theorem dL_law_427 : decode cL_law 427 = .ok (.iadd, 1) := by decide +kernel
theorem dL_law_428 : decode cL_law 428 = .ok (.iaload, 1) := by decide +kernel
theorem dL_law_429 : decode cL_law 429 = .ok (.i2l, 1) := by decide +kernel
theorem dL_law_430 : decode cL_law 430 = .ok (.bipush 32, 2) := by decide +kernel
theorem dL_law_432 : decode cL_law 432 = .ok (.lshl, 1) := by decide +kernel
theorem dL_law_433 : decode cL_law 433 = .ok (.aload_n 0, 1) := by decide +kernel
theorem dL_law_434 : decode cL_law 434 = .ok (.iload_n 3, 1) := by decide +kernel
theorem dL_law_435 : decode cL_law 435 = .ok (.iconst 3, 1) := by decide +kernel
theorem dL_law_436 : decode cL_law 436 = .ok (.iadd, 1) := by decide +kernel
theorem dL_law_437 : decode cL_law 437 = .ok (.iaload, 1) := by decide +kernel
theorem dL_law_438 : decode cL_law 438 = .ok (.i2l, 1) := by decide +kernel
theorem dL_law_439 : decode cL_law 439 = .ok (.ldc2_w 41, 3) := by decide +kernel
theorem dL_law_442 : decode cL_law 442 = .ok (.land, 1) := by decide +kernel
theorem dL_law_443 : decode cL_law 443 = .ok (.lor, 1) := by decide +kernel
theorem dL_law_444 : decode cL_law 444 = .ok (.invokevirtual 43, 3) := by decide +kernel
theorem dL_law_447 : decode cL_law 447 = .ok (.aload_n 2, 1) := by decide +kernel
theorem dL_law_448 : decode cL_law 448 = .ok (.aload_n 0, 1) := by decide +kernel
theorem dL_law_449 : decode cL_law 449 = .ok (.iload_n 3, 1) := by decide +kernel
theorem dL_law_450 : decode cL_law 450 = .ok (.iconst 1, 1) := by decide +kernel
theorem dL_law_451 : decode cL_law 451 = .ok (.iadd, 1) := by decide +kernel
theorem dL_law_452 : decode cL_law 452 = .ok (.iaload, 1) := by decide +kernel
theorem dL_law_453 : decode cL_law 453 = .ok (.aload_n 0, 1) := by decide +kernel
theorem dL_law_454 : decode cL_law 454 = .ok (.iload_n 3, 1) := by decide +kernel
theorem dL_law_455 : decode cL_law 455 = .ok (.iconst 2, 1) := by decide +kernel
theorem dL_law_456 : decode cL_law 456 = .ok (.iadd, 1) := by decide +kernel
theorem dL_law_457 : decode cL_law 457 = .ok (.iaload, 1) := by decide +kernel
theorem dL_law_458 : decode cL_law 458 = .ok (.i2l, 1) := by decide +kernel
theorem dL_law_459 : decode cL_law 459 = .ok (.bipush 32, 2) := by decide +kernel
theorem dL_law_461 : decode cL_law 461 = .ok (.lshl, 1) := by decide +kernel
theorem dL_law_462 : decode cL_law 462 = .ok (.aload_n 0, 1) := by decide +kernel
theorem dL_law_463 : decode cL_law 463 = .ok (.iload_n 3, 1) := by decide +kernel
theorem dL_law_464 : decode cL_law 464 = .ok (.iconst 3, 1) := by decide +kernel
theorem dL_law_465 : decode cL_law 465 = .ok (.iadd, 1) := by decide +kernel
theorem dL_law_466 : decode cL_law 466 = .ok (.iaload, 1) := by decide +kernel
theorem dL_law_467 : decode cL_law 467 = .ok (.i2l, 1) := by decide +kernel
theorem dL_law_468 : decode cL_law 468 = .ok (.ldc2_w 41, 3) := by decide +kernel
theorem dL_law_471 : decode cL_law 471 = .ok (.land, 1) := by decide +kernel
theorem dL_law_472 : decode cL_law 472 = .ok (.lor, 1) := by decide +kernel
theorem dL_law_473 : decode cL_law 473 = .ok (.invokevirtual 47, 3) := by decide +kernel
theorem dL_law_476 : decode cL_law 476 = .ok (.if_icmp .eq 684, 3) := by decide +kernel
theorem dL_law_479 : decode cL_law 479 = .ok (.iconst 0, 1) := by decide +kernel
theorem dL_law_480 : decode cL_law 480 = .ok (.ireturn, 1) := by decide +kernel
theorem dL_law_481 : decode cL_law 481 = .ok (.aload_n 1, 1) := by decide +kernel
theorem dL_law_482 : decode cL_law 482 = .ok (.aload_n 0, 1) := by decide +kernel
theorem dL_law_483 : decode cL_law 483 = .ok (.iload_n 3, 1) := by decide +kernel
theorem dL_law_484 : decode cL_law 484 = .ok (.iconst 1, 1) := by decide +kernel
theorem dL_law_485 : decode cL_law 485 = .ok (.iadd, 1) := by decide +kernel
theorem dL_law_486 : decode cL_law 486 = .ok (.iaload, 1) := by decide +kernel
theorem dL_law_487 : decode cL_law 487 = .ok (.invokevirtual 48, 3) := by decide +kernel
theorem dL_law_490 : decode cL_law 490 = .ok (.aload_n 2, 1) := by decide +kernel
theorem dL_law_491 : decode cL_law 491 = .ok (.aload_n 0, 1) := by decide +kernel
theorem dL_law_492 : decode cL_law 492 = .ok (.iload_n 3, 1) := by decide +kernel
theorem dL_law_493 : decode cL_law 493 = .ok (.iconst 1, 1) := by decide +kernel
theorem dL_law_494 : decode cL_law 494 = .ok (.iadd, 1) := by decide +kernel
theorem dL_law_495 : decode cL_law 495 = .ok (.iaload, 1) := by decide +kernel
theorem dL_law_496 : decode cL_law 496 = .ok (.invokevirtual 51, 3) := by decide +kernel
theorem dL_law_499 : decode cL_law 499 = .ok (.if_icmp .eq 661, 3) := by decide +kernel
theorem dL_law_502 : decode cL_law 502 = .ok (.iconst 0, 1) := by decide +kernel
theorem dL_law_503 : decode cL_law 503 = .ok (.ireturn, 1) := by decide +kernel
theorem dL_law_504 : decode cL_law 504 = .ok (.aload_n 1, 1) := by decide +kernel
theorem dL_law_505 : decode cL_law 505 = .ok (.invokevirtual 52, 3) := by decide +kernel
theorem dL_law_508 : decode cL_law 508 = .ok (.aload_n 2, 1) := by decide +kernel
theorem dL_law_509 : decode cL_law 509 = .ok (.invokevirtual 56, 3) := by decide +kernel
theorem dL_law_512 : decode cL_law 512 = .ok (.if_icmp .eq 648, 3) := by decide +kernel
theorem dL_law_515 : decode cL_law 515 = .ok (.iconst 0, 1) := by decide +kernel
theorem dL_law_516 : decode cL_law 516 = .ok (.ireturn, 1) := by decide +kernel
theorem dL_law_517 : decode cL_law 517 = .ok (.aload_n 1, 1) := by decide +kernel
theorem dL_law_518 : decode cL_law 518 = .ok (.aload_n 0, 1) := by decide +kernel
theorem dL_law_519 : decode cL_law 519 = .ok (.iload_n 3, 1) := by decide +kernel
theorem dL_law_520 : decode cL_law 520 = .ok (.iconst 1, 1) := by decide +kernel
theorem dL_law_521 : decode cL_law 521 = .ok (.iadd, 1) := by decide +kernel
theorem dL_law_522 : decode cL_law 522 = .ok (.iaload, 1) := by decide +kernel
theorem dL_law_523 : decode cL_law 523 = .ok (.aload_n 0, 1) := by decide +kernel
theorem dL_law_524 : decode cL_law 524 = .ok (.iload_n 3, 1) := by decide +kernel
theorem dL_law_525 : decode cL_law 525 = .ok (.iconst 2, 1) := by decide +kernel
theorem dL_law_526 : decode cL_law 526 = .ok (.iadd, 1) := by decide +kernel
theorem dL_law_527 : decode cL_law 527 = .ok (.iaload, 1) := by decide +kernel
theorem dL_law_528 : decode cL_law 528 = .ok (.aload_n 0, 1) := by decide +kernel
theorem dL_law_529 : decode cL_law 529 = .ok (.iload_n 3, 1) := by decide +kernel
theorem dL_law_530 : decode cL_law 530 = .ok (.iconst 3, 1) := by decide +kernel
theorem dL_law_531 : decode cL_law 531 = .ok (.iadd, 1) := by decide +kernel
theorem dL_law_532 : decode cL_law 532 = .ok (.iaload, 1) := by decide +kernel
theorem dL_law_533 : decode cL_law 533 = .ok (.invokevirtual 57, 3) := by decide +kernel
theorem dL_law_536 : decode cL_law 536 = .ok (.aload_n 2, 1) := by decide +kernel
theorem dL_law_537 : decode cL_law 537 = .ok (.aload_n 0, 1) := by decide +kernel
theorem dL_law_538 : decode cL_law 538 = .ok (.iload_n 3, 1) := by decide +kernel
theorem dL_law_539 : decode cL_law 539 = .ok (.iconst 1, 1) := by decide +kernel
theorem dL_law_540 : decode cL_law 540 = .ok (.iadd, 1) := by decide +kernel
theorem dL_law_541 : decode cL_law 541 = .ok (.iaload, 1) := by decide +kernel
theorem dL_law_542 : decode cL_law 542 = .ok (.aload_n 0, 1) := by decide +kernel
theorem dL_law_543 : decode cL_law 543 = .ok (.iload_n 3, 1) := by decide +kernel
theorem dL_law_544 : decode cL_law 544 = .ok (.iconst 2, 1) := by decide +kernel
theorem dL_law_545 : decode cL_law 545 = .ok (.iadd, 1) := by decide +kernel
theorem dL_law_546 : decode cL_law 546 = .ok (.iaload, 1) := by decide +kernel
theorem dL_law_547 : decode cL_law 547 = .ok (.aload_n 0, 1) := by decide +kernel
theorem dL_law_548 : decode cL_law 548 = .ok (.iload_n 3, 1) := by decide +kernel
theorem dL_law_549 : decode cL_law 549 = .ok (.iconst 3, 1) := by decide +kernel
theorem dL_law_550 : decode cL_law 550 = .ok (.iadd, 1) := by decide +kernel
theorem dL_law_551 : decode cL_law 551 = .ok (.iaload, 1) := by decide +kernel
theorem dL_law_552 : decode cL_law 552 = .ok (.invokevirtual 61, 3) := by decide +kernel
theorem dL_law_555 : decode cL_law 555 = .ok (.if_icmp .eq 605, 3) := by decide +kernel
theorem dL_law_558 : decode cL_law 558 = .ok (.iconst 0, 1) := by decide +kernel
theorem dL_law_559 : decode cL_law 559 = .ok (.ireturn, 1) := by decide +kernel
theorem dL_law_560 : decode cL_law 560 = .ok (.aload_n 1, 1) := by decide +kernel
theorem dL_law_561 : decode cL_law 561 = .ok (.aload_n 0, 1) := by decide +kernel
theorem dL_law_562 : decode cL_law 562 = .ok (.iload_n 3, 1) := by decide +kernel
theorem dL_law_563 : decode cL_law 563 = .ok (.iconst 1, 1) := by decide +kernel
theorem dL_law_564 : decode cL_law 564 = .ok (.iadd, 1) := by decide +kernel
theorem dL_law_565 : decode cL_law 565 = .ok (.iaload, 1) := by decide +kernel
theorem dL_law_566 : decode cL_law 566 = .ok (.aload_n 0, 1) := by decide +kernel
theorem dL_law_567 : decode cL_law 567 = .ok (.iload_n 3, 1) := by decide +kernel
theorem dL_law_568 : decode cL_law 568 = .ok (.iconst 2, 1) := by decide +kernel
theorem dL_law_569 : decode cL_law 569 = .ok (.iadd, 1) := by decide +kernel
theorem dL_law_570 : decode cL_law 570 = .ok (.iaload, 1) := by decide +kernel
theorem dL_law_571 : decode cL_law 571 = .ok (.invokevirtual 62, 3) := by decide +kernel
theorem dL_law_574 : decode cL_law 574 = .ok (.aload_n 2, 1) := by decide +kernel
theorem dL_law_575 : decode cL_law 575 = .ok (.aload_n 0, 1) := by decide +kernel
theorem dL_law_576 : decode cL_law 576 = .ok (.iload_n 3, 1) := by decide +kernel
theorem dL_law_577 : decode cL_law 577 = .ok (.iconst 1, 1) := by decide +kernel
theorem dL_law_578 : decode cL_law 578 = .ok (.iadd, 1) := by decide +kernel
theorem dL_law_579 : decode cL_law 579 = .ok (.iaload, 1) := by decide +kernel
theorem dL_law_580 : decode cL_law 580 = .ok (.aload_n 0, 1) := by decide +kernel
theorem dL_law_581 : decode cL_law 581 = .ok (.iload_n 3, 1) := by decide +kernel
theorem dL_law_582 : decode cL_law 582 = .ok (.iconst 2, 1) := by decide +kernel
theorem dL_law_583 : decode cL_law 583 = .ok (.iadd, 1) := by decide +kernel
theorem dL_law_584 : decode cL_law 584 = .ok (.iaload, 1) := by decide +kernel
theorem dL_law_585 : decode cL_law 585 = .ok (.invokevirtual 66, 3) := by decide +kernel
theorem dL_law_588 : decode cL_law 588 = .ok (.if_icmp .eq 572, 3) := by decide +kernel
theorem dL_law_591 : decode cL_law 591 = .ok (.iconst 0, 1) := by decide +kernel
theorem dL_law_592 : decode cL_law 592 = .ok (.ireturn, 1) := by decide +kernel
theorem dL_law_593 : decode cL_law 593 = .ok (.aload_n 1, 1) := by decide +kernel
theorem dL_law_594 : decode cL_law 594 = .ok (.aload_n 0, 1) := by decide +kernel
theorem dL_law_595 : decode cL_law 595 = .ok (.iload_n 3, 1) := by decide +kernel
theorem dL_law_596 : decode cL_law 596 = .ok (.iconst 1, 1) := by decide +kernel
theorem dL_law_597 : decode cL_law 597 = .ok (.iadd, 1) := by decide +kernel
theorem dL_law_598 : decode cL_law 598 = .ok (.iaload, 1) := by decide +kernel
theorem dL_law_599 : decode cL_law 599 = .ok (.aload_n 0, 1) := by decide +kernel
theorem dL_law_600 : decode cL_law 600 = .ok (.iload_n 3, 1) := by decide +kernel
theorem dL_law_601 : decode cL_law 601 = .ok (.iconst 2, 1) := by decide +kernel
theorem dL_law_602 : decode cL_law 602 = .ok (.iadd, 1) := by decide +kernel
theorem dL_law_603 : decode cL_law 603 = .ok (.iaload, 1) := by decide +kernel
theorem dL_law_604 : decode cL_law 604 = .ok (.invokevirtual 67, 3) := by decide +kernel
theorem dL_law_607 : decode cL_law 607 = .ok (.aload_n 2, 1) := by decide +kernel
theorem dL_law_608 : decode cL_law 608 = .ok (.aload_n 0, 1) := by decide +kernel
theorem dL_law_609 : decode cL_law 609 = .ok (.iload_n 3, 1) := by decide +kernel
theorem dL_law_610 : decode cL_law 610 = .ok (.iconst 1, 1) := by decide +kernel
theorem dL_law_611 : decode cL_law 611 = .ok (.iadd, 1) := by decide +kernel
theorem dL_law_612 : decode cL_law 612 = .ok (.iaload, 1) := by decide +kernel
theorem dL_law_613 : decode cL_law 613 = .ok (.aload_n 0, 1) := by decide +kernel
theorem dL_law_614 : decode cL_law 614 = .ok (.iload_n 3, 1) := by decide +kernel
theorem dL_law_615 : decode cL_law 615 = .ok (.iconst 2, 1) := by decide +kernel
theorem dL_law_616 : decode cL_law 616 = .ok (.iadd, 1) := by decide +kernel
theorem dL_law_617 : decode cL_law 617 = .ok (.iaload, 1) := by decide +kernel
theorem dL_law_618 : decode cL_law 618 = .ok (.invokevirtual 70, 3) := by decide +kernel
theorem dL_law_621 : decode cL_law 621 = .ok (.if_icmp .eq 539, 3) := by decide +kernel
theorem dL_law_624 : decode cL_law 624 = .ok (.iconst 0, 1) := by decide +kernel
theorem dL_law_625 : decode cL_law 625 = .ok (.ireturn, 1) := by decide +kernel
theorem dL_law_626 : decode cL_law 626 = .ok (.aload_n 1, 1) := by decide +kernel
theorem dL_law_627 : decode cL_law 627 = .ok (.aload_n 0, 1) := by decide +kernel
theorem dL_law_628 : decode cL_law 628 = .ok (.iload_n 3, 1) := by decide +kernel
theorem dL_law_629 : decode cL_law 629 = .ok (.iconst 1, 1) := by decide +kernel
theorem dL_law_630 : decode cL_law 630 = .ok (.iadd, 1) := by decide +kernel
theorem dL_law_631 : decode cL_law 631 = .ok (.iaload, 1) := by decide +kernel
theorem dL_law_632 : decode cL_law 632 = .ok (.aload_n 0, 1) := by decide +kernel
theorem dL_law_633 : decode cL_law 633 = .ok (.iload_n 3, 1) := by decide +kernel
theorem dL_law_634 : decode cL_law 634 = .ok (.iconst 2, 1) := by decide +kernel
theorem dL_law_635 : decode cL_law 635 = .ok (.iadd, 1) := by decide +kernel
theorem dL_law_636 : decode cL_law 636 = .ok (.iaload, 1) := by decide +kernel
theorem dL_law_637 : decode cL_law 637 = .ok (.invokevirtual 71, 3) := by decide +kernel
theorem dL_law_640 : decode cL_law 640 = .ok (.aload_n 2, 1) := by decide +kernel
theorem dL_law_641 : decode cL_law 641 = .ok (.aload_n 0, 1) := by decide +kernel
theorem dL_law_642 : decode cL_law 642 = .ok (.iload_n 3, 1) := by decide +kernel
theorem dL_law_643 : decode cL_law 643 = .ok (.iconst 1, 1) := by decide +kernel
theorem dL_law_644 : decode cL_law 644 = .ok (.iadd, 1) := by decide +kernel
theorem dL_law_645 : decode cL_law 645 = .ok (.iaload, 1) := by decide +kernel
theorem dL_law_646 : decode cL_law 646 = .ok (.aload_n 0, 1) := by decide +kernel
theorem dL_law_647 : decode cL_law 647 = .ok (.iload_n 3, 1) := by decide +kernel
theorem dL_law_648 : decode cL_law 648 = .ok (.iconst 2, 1) := by decide +kernel
theorem dL_law_649 : decode cL_law 649 = .ok (.iadd, 1) := by decide +kernel
theorem dL_law_650 : decode cL_law 650 = .ok (.iaload, 1) := by decide +kernel
theorem dL_law_651 : decode cL_law 651 = .ok (.invokevirtual 75, 3) := by decide +kernel
theorem dL_law_654 : decode cL_law 654 = .ok (.if_icmp .eq 506, 3) := by decide +kernel
theorem dL_law_657 : decode cL_law 657 = .ok (.iconst 0, 1) := by decide +kernel
theorem dL_law_658 : decode cL_law 658 = .ok (.ireturn, 1) := by decide +kernel
theorem dL_law_659 : decode cL_law 659 = .ok (.aload_n 1, 1) := by decide +kernel
theorem dL_law_660 : decode cL_law 660 = .ok (.aload_n 0, 1) := by decide +kernel
theorem dL_law_661 : decode cL_law 661 = .ok (.iload_n 3, 1) := by decide +kernel
theorem dL_law_662 : decode cL_law 662 = .ok (.iconst 1, 1) := by decide +kernel
theorem dL_law_663 : decode cL_law 663 = .ok (.iadd, 1) := by decide +kernel
theorem dL_law_664 : decode cL_law 664 = .ok (.iaload, 1) := by decide +kernel
theorem dL_law_665 : decode cL_law 665 = .ok (.aload_n 0, 1) := by decide +kernel
theorem dL_law_666 : decode cL_law 666 = .ok (.iload_n 3, 1) := by decide +kernel
theorem dL_law_667 : decode cL_law 667 = .ok (.iconst 2, 1) := by decide +kernel
theorem dL_law_668 : decode cL_law 668 = .ok (.iadd, 1) := by decide +kernel
theorem dL_law_669 : decode cL_law 669 = .ok (.iaload, 1) := by decide +kernel
theorem dL_law_670 : decode cL_law 670 = .ok (.invokevirtual 76, 3) := by decide +kernel
theorem dL_law_673 : decode cL_law 673 = .ok (.aload_n 2, 1) := by decide +kernel
theorem dL_law_674 : decode cL_law 674 = .ok (.aload_n 0, 1) := by decide +kernel
theorem dL_law_675 : decode cL_law 675 = .ok (.iload_n 3, 1) := by decide +kernel
theorem dL_law_676 : decode cL_law 676 = .ok (.iconst 1, 1) := by decide +kernel
theorem dL_law_677 : decode cL_law 677 = .ok (.iadd, 1) := by decide +kernel
theorem dL_law_678 : decode cL_law 678 = .ok (.iaload, 1) := by decide +kernel
theorem dL_law_679 : decode cL_law 679 = .ok (.aload_n 0, 1) := by decide +kernel
theorem dL_law_680 : decode cL_law 680 = .ok (.iload_n 3, 1) := by decide +kernel
theorem dL_law_681 : decode cL_law 681 = .ok (.iconst 2, 1) := by decide +kernel
theorem dL_law_682 : decode cL_law 682 = .ok (.iadd, 1) := by decide +kernel
theorem dL_law_683 : decode cL_law 683 = .ok (.iaload, 1) := by decide +kernel
theorem dL_law_684 : decode cL_law 684 = .ok (.invokevirtual 79, 3) := by decide +kernel
theorem dL_law_687 : decode cL_law 687 = .ok (.if_icmp .eq 473, 3) := by decide +kernel
theorem dL_law_690 : decode cL_law 690 = .ok (.iconst 0, 1) := by decide +kernel
theorem dL_law_691 : decode cL_law 691 = .ok (.ireturn, 1) := by decide +kernel
theorem dL_law_692 : decode cL_law 692 = .ok (.aload_n 1, 1) := by decide +kernel
theorem dL_law_693 : decode cL_law 693 = .ok (.aload_n 0, 1) := by decide +kernel
theorem dL_law_694 : decode cL_law 694 = .ok (.iload_n 3, 1) := by decide +kernel
theorem dL_law_695 : decode cL_law 695 = .ok (.iconst 1, 1) := by decide +kernel
theorem dL_law_696 : decode cL_law 696 = .ok (.iadd, 1) := by decide +kernel
theorem dL_law_697 : decode cL_law 697 = .ok (.iaload, 1) := by decide +kernel
theorem dL_law_698 : decode cL_law 698 = .ok (.aload_n 0, 1) := by decide +kernel
theorem dL_law_699 : decode cL_law 699 = .ok (.iload_n 3, 1) := by decide +kernel
theorem dL_law_700 : decode cL_law 700 = .ok (.iconst 2, 1) := by decide +kernel
theorem dL_law_701 : decode cL_law 701 = .ok (.iadd, 1) := by decide +kernel
theorem dL_law_702 : decode cL_law 702 = .ok (.iaload, 1) := by decide +kernel
theorem dL_law_703 : decode cL_law 703 = .ok (.invokevirtual 80, 3) := by decide +kernel
theorem dL_law_706 : decode cL_law 706 = .ok (.aload_n 2, 1) := by decide +kernel
theorem dL_law_707 : decode cL_law 707 = .ok (.aload_n 0, 1) := by decide +kernel
theorem dL_law_708 : decode cL_law 708 = .ok (.iload_n 3, 1) := by decide +kernel
theorem dL_law_709 : decode cL_law 709 = .ok (.iconst 1, 1) := by decide +kernel
theorem dL_law_710 : decode cL_law 710 = .ok (.iadd, 1) := by decide +kernel
theorem dL_law_711 : decode cL_law 711 = .ok (.iaload, 1) := by decide +kernel
theorem dL_law_712 : decode cL_law 712 = .ok (.aload_n 0, 1) := by decide +kernel
theorem dL_law_713 : decode cL_law 713 = .ok (.iload_n 3, 1) := by decide +kernel
theorem dL_law_714 : decode cL_law 714 = .ok (.iconst 2, 1) := by decide +kernel
theorem dL_law_715 : decode cL_law 715 = .ok (.iadd, 1) := by decide +kernel
theorem dL_law_716 : decode cL_law 716 = .ok (.iaload, 1) := by decide +kernel
theorem dL_law_717 : decode cL_law 717 = .ok (.invokevirtual 83, 3) := by decide +kernel
theorem dL_law_720 : decode cL_law 720 = .ok (.if_icmp .eq 440, 3) := by decide +kernel
theorem dL_law_723 : decode cL_law 723 = .ok (.iconst 0, 1) := by decide +kernel
theorem dL_law_724 : decode cL_law 724 = .ok (.ireturn, 1) := by decide +kernel
theorem dL_law_725 : decode cL_law 725 = .ok (.aload_n 1, 1) := by decide +kernel
theorem dL_law_726 : decode cL_law 726 = .ok (.invokevirtual 84, 3) := by decide +kernel
theorem dL_law_729 : decode cL_law 729 = .ok (.aload_n 2, 1) := by decide +kernel
theorem dL_law_730 : decode cL_law 730 = .ok (.invokevirtual 87, 3) := by decide +kernel
theorem dL_law_733 : decode cL_law 733 = .ok (.if_icmp .eq 427, 3) := by decide +kernel
theorem dL_law_736 : decode cL_law 736 = .ok (.iconst 0, 1) := by decide +kernel
theorem dL_law_737 : decode cL_law 737 = .ok (.ireturn, 1) := by decide +kernel
theorem dL_law_738 : decode cL_law 738 = .ok (.aload_n 1, 1) := by decide +kernel
theorem dL_law_739 : decode cL_law 739 = .ok (.aload_n 0, 1) := by decide +kernel
theorem dL_law_740 : decode cL_law 740 = .ok (.iload_n 3, 1) := by decide +kernel
theorem dL_law_741 : decode cL_law 741 = .ok (.iconst 1, 1) := by decide +kernel
theorem dL_law_742 : decode cL_law 742 = .ok (.iadd, 1) := by decide +kernel
theorem dL_law_743 : decode cL_law 743 = .ok (.iaload, 1) := by decide +kernel
theorem dL_law_744 : decode cL_law 744 = .ok (.invokevirtual 88, 3) := by decide +kernel
theorem dL_law_747 : decode cL_law 747 = .ok (.aload_n 2, 1) := by decide +kernel
theorem dL_law_748 : decode cL_law 748 = .ok (.aload_n 0, 1) := by decide +kernel
theorem dL_law_749 : decode cL_law 749 = .ok (.iload_n 3, 1) := by decide +kernel
theorem dL_law_750 : decode cL_law 750 = .ok (.iconst 1, 1) := by decide +kernel
theorem dL_law_751 : decode cL_law 751 = .ok (.iadd, 1) := by decide +kernel
theorem dL_law_752 : decode cL_law 752 = .ok (.iaload, 1) := by decide +kernel
theorem dL_law_753 : decode cL_law 753 = .ok (.invokevirtual 91, 3) := by decide +kernel
theorem dL_law_756 : decode cL_law 756 = .ok (.if_icmp .eq 404, 3) := by decide +kernel
theorem dL_law_759 : decode cL_law 759 = .ok (.iconst 0, 1) := by decide +kernel
theorem dL_law_760 : decode cL_law 760 = .ok (.ireturn, 1) := by decide +kernel
theorem dL_law_761 : decode cL_law 761 = .ok (.aload_n 1, 1) := by decide +kernel
theorem dL_law_762 : decode cL_law 762 = .ok (.invokevirtual 92, 3) := by decide +kernel
theorem dL_law_765 : decode cL_law 765 = .ok (.aload_n 2, 1) := by decide +kernel
theorem dL_law_766 : decode cL_law 766 = .ok (.invokevirtual 95, 3) := by decide +kernel
theorem dL_law_769 : decode cL_law 769 = .ok (.if_icmp .eq 391, 3) := by decide +kernel
theorem dL_law_772 : decode cL_law 772 = .ok (.iconst 0, 1) := by decide +kernel
theorem dL_law_773 : decode cL_law 773 = .ok (.ireturn, 1) := by decide +kernel
theorem dL_law_774 : decode cL_law 774 = .ok (.aload_n 1, 1) := by decide +kernel
theorem dL_law_775 : decode cL_law 775 = .ok (.aload_n 0, 1) := by decide +kernel
theorem dL_law_776 : decode cL_law 776 = .ok (.iload_n 3, 1) := by decide +kernel
theorem dL_law_777 : decode cL_law 777 = .ok (.iconst 1, 1) := by decide +kernel
theorem dL_law_778 : decode cL_law 778 = .ok (.iadd, 1) := by decide +kernel
theorem dL_law_779 : decode cL_law 779 = .ok (.iaload, 1) := by decide +kernel
theorem dL_law_780 : decode cL_law 780 = .ok (.invokevirtual 96, 3) := by decide +kernel
theorem dL_law_783 : decode cL_law 783 = .ok (.aload_n 2, 1) := by decide +kernel
theorem dL_law_784 : decode cL_law 784 = .ok (.aload_n 0, 1) := by decide +kernel
theorem dL_law_785 : decode cL_law 785 = .ok (.iload_n 3, 1) := by decide +kernel
theorem dL_law_786 : decode cL_law 786 = .ok (.iconst 1, 1) := by decide +kernel
theorem dL_law_787 : decode cL_law 787 = .ok (.iadd, 1) := by decide +kernel
theorem dL_law_788 : decode cL_law 788 = .ok (.iaload, 1) := by decide +kernel
theorem dL_law_789 : decode cL_law 789 = .ok (.invokevirtual 99, 3) := by decide +kernel
theorem dL_law_792 : decode cL_law 792 = .ok (.if_icmp .eq 368, 3) := by decide +kernel
theorem dL_law_795 : decode cL_law 795 = .ok (.iconst 0, 1) := by decide +kernel
theorem dL_law_796 : decode cL_law 796 = .ok (.ireturn, 1) := by decide +kernel
theorem dL_law_797 : decode cL_law 797 = .ok (.aload_n 1, 1) := by decide +kernel
theorem dL_law_798 : decode cL_law 798 = .ok (.aload_n 0, 1) := by decide +kernel
theorem dL_law_799 : decode cL_law 799 = .ok (.iload_n 3, 1) := by decide +kernel
theorem dL_law_800 : decode cL_law 800 = .ok (.iconst 1, 1) := by decide +kernel
theorem dL_law_801 : decode cL_law 801 = .ok (.iadd, 1) := by decide +kernel
theorem dL_law_802 : decode cL_law 802 = .ok (.iaload, 1) := by decide +kernel
theorem dL_law_803 : decode cL_law 803 = .ok (.aload_n 0, 1) := by decide +kernel
theorem dL_law_804 : decode cL_law 804 = .ok (.iload_n 3, 1) := by decide +kernel
theorem dL_law_805 : decode cL_law 805 = .ok (.iconst 2, 1) := by decide +kernel
theorem dL_law_806 : decode cL_law 806 = .ok (.iadd, 1) := by decide +kernel
theorem dL_law_807 : decode cL_law 807 = .ok (.iaload, 1) := by decide +kernel
theorem dL_law_808 : decode cL_law 808 = .ok (.aload_n 0, 1) := by decide +kernel
theorem dL_law_809 : decode cL_law 809 = .ok (.iload_n 3, 1) := by decide +kernel
theorem dL_law_810 : decode cL_law 810 = .ok (.iconst 3, 1) := by decide +kernel
theorem dL_law_811 : decode cL_law 811 = .ok (.iadd, 1) := by decide +kernel
theorem dL_law_812 : decode cL_law 812 = .ok (.iaload, 1) := by decide +kernel
theorem dL_law_813 : decode cL_law 813 = .ok (.aload_n 0, 1) := by decide +kernel
theorem dL_law_814 : decode cL_law 814 = .ok (.iload_n 3, 1) := by decide +kernel
theorem dL_law_815 : decode cL_law 815 = .ok (.iconst 4, 1) := by decide +kernel
theorem dL_law_816 : decode cL_law 816 = .ok (.iadd, 1) := by decide +kernel
theorem dL_law_817 : decode cL_law 817 = .ok (.iaload, 1) := by decide +kernel
theorem dL_law_818 : decode cL_law 818 = .ok (.invokevirtual 100, 3) := by decide +kernel
theorem dL_law_821 : decode cL_law 821 = .ok (.aload_n 2, 1) := by decide +kernel
theorem dL_law_822 : decode cL_law 822 = .ok (.aload_n 0, 1) := by decide +kernel
theorem dL_law_823 : decode cL_law 823 = .ok (.iload_n 3, 1) := by decide +kernel
theorem dL_law_824 : decode cL_law 824 = .ok (.iconst 1, 1) := by decide +kernel
theorem dL_law_825 : decode cL_law 825 = .ok (.iadd, 1) := by decide +kernel
theorem dL_law_826 : decode cL_law 826 = .ok (.iaload, 1) := by decide +kernel
theorem dL_law_827 : decode cL_law 827 = .ok (.aload_n 0, 1) := by decide +kernel
theorem dL_law_828 : decode cL_law 828 = .ok (.iload_n 3, 1) := by decide +kernel
theorem dL_law_829 : decode cL_law 829 = .ok (.iconst 2, 1) := by decide +kernel
theorem dL_law_830 : decode cL_law 830 = .ok (.iadd, 1) := by decide +kernel
theorem dL_law_831 : decode cL_law 831 = .ok (.iaload, 1) := by decide +kernel
theorem dL_law_832 : decode cL_law 832 = .ok (.aload_n 0, 1) := by decide +kernel
theorem dL_law_833 : decode cL_law 833 = .ok (.iload_n 3, 1) := by decide +kernel
theorem dL_law_834 : decode cL_law 834 = .ok (.iconst 3, 1) := by decide +kernel
theorem dL_law_835 : decode cL_law 835 = .ok (.iadd, 1) := by decide +kernel
theorem dL_law_836 : decode cL_law 836 = .ok (.iaload, 1) := by decide +kernel
theorem dL_law_837 : decode cL_law 837 = .ok (.aload_n 0, 1) := by decide +kernel
theorem dL_law_838 : decode cL_law 838 = .ok (.iload_n 3, 1) := by decide +kernel
theorem dL_law_839 : decode cL_law 839 = .ok (.iconst 4, 1) := by decide +kernel
theorem dL_law_840 : decode cL_law 840 = .ok (.iadd, 1) := by decide +kernel
theorem dL_law_841 : decode cL_law 841 = .ok (.iaload, 1) := by decide +kernel
theorem dL_law_842 : decode cL_law 842 = .ok (.invokevirtual 104, 3) := by decide +kernel
theorem dL_law_845 : decode cL_law 845 = .ok (.if_icmp .eq 315, 3) := by decide +kernel
theorem dL_law_848 : decode cL_law 848 = .ok (.iconst 0, 1) := by decide +kernel
theorem dL_law_849 : decode cL_law 849 = .ok (.ireturn, 1) := by decide +kernel
theorem dL_law_850 : decode cL_law 850 = .ok (.aload_n 1, 1) := by decide +kernel
theorem dL_law_851 : decode cL_law 851 = .ok (.aload_n 0, 1) := by decide +kernel
theorem dL_law_852 : decode cL_law 852 = .ok (.iload_n 3, 1) := by decide +kernel
theorem dL_law_853 : decode cL_law 853 = .ok (.iconst 1, 1) := by decide +kernel
theorem dL_law_854 : decode cL_law 854 = .ok (.iadd, 1) := by decide +kernel
theorem dL_law_855 : decode cL_law 855 = .ok (.iaload, 1) := by decide +kernel
theorem dL_law_856 : decode cL_law 856 = .ok (.aload_n 0, 1) := by decide +kernel
theorem dL_law_857 : decode cL_law 857 = .ok (.iload_n 3, 1) := by decide +kernel
theorem dL_law_858 : decode cL_law 858 = .ok (.iconst 2, 1) := by decide +kernel
theorem dL_law_859 : decode cL_law 859 = .ok (.iadd, 1) := by decide +kernel
theorem dL_law_860 : decode cL_law 860 = .ok (.iaload, 1) := by decide +kernel
theorem dL_law_861 : decode cL_law 861 = .ok (.aload_n 0, 1) := by decide +kernel
theorem dL_law_862 : decode cL_law 862 = .ok (.iload_n 3, 1) := by decide +kernel
theorem dL_law_863 : decode cL_law 863 = .ok (.iconst 3, 1) := by decide +kernel
theorem dL_law_864 : decode cL_law 864 = .ok (.iadd, 1) := by decide +kernel
theorem dL_law_865 : decode cL_law 865 = .ok (.iaload, 1) := by decide +kernel
theorem dL_law_866 : decode cL_law 866 = .ok (.invokevirtual 105, 3) := by decide +kernel
theorem dL_law_869 : decode cL_law 869 = .ok (.aload_n 2, 1) := by decide +kernel
theorem dL_law_870 : decode cL_law 870 = .ok (.aload_n 0, 1) := by decide +kernel
theorem dL_law_871 : decode cL_law 871 = .ok (.iload_n 3, 1) := by decide +kernel
theorem dL_law_872 : decode cL_law 872 = .ok (.iconst 1, 1) := by decide +kernel
theorem dL_law_873 : decode cL_law 873 = .ok (.iadd, 1) := by decide +kernel
theorem dL_law_874 : decode cL_law 874 = .ok (.iaload, 1) := by decide +kernel
theorem dL_law_875 : decode cL_law 875 = .ok (.aload_n 0, 1) := by decide +kernel
theorem dL_law_876 : decode cL_law 876 = .ok (.iload_n 3, 1) := by decide +kernel
theorem dL_law_877 : decode cL_law 877 = .ok (.iconst 2, 1) := by decide +kernel
theorem dL_law_878 : decode cL_law 878 = .ok (.iadd, 1) := by decide +kernel
theorem dL_law_879 : decode cL_law 879 = .ok (.iaload, 1) := by decide +kernel
theorem dL_law_880 : decode cL_law 880 = .ok (.aload_n 0, 1) := by decide +kernel
theorem dL_law_881 : decode cL_law 881 = .ok (.iload_n 3, 1) := by decide +kernel
theorem dL_law_882 : decode cL_law 882 = .ok (.iconst 3, 1) := by decide +kernel
theorem dL_law_883 : decode cL_law 883 = .ok (.iadd, 1) := by decide +kernel
theorem dL_law_884 : decode cL_law 884 = .ok (.iaload, 1) := by decide +kernel
theorem dL_law_885 : decode cL_law 885 = .ok (.invokevirtual 108, 3) := by decide +kernel
theorem dL_law_888 : decode cL_law 888 = .ok (.if_icmp .eq 272, 3) := by decide +kernel
theorem dL_law_891 : decode cL_law 891 = .ok (.iconst 0, 1) := by decide +kernel
theorem dL_law_892 : decode cL_law 892 = .ok (.ireturn, 1) := by decide +kernel
theorem dL_law_893 : decode cL_law 893 = .ok (.aload_n 1, 1) := by decide +kernel
theorem dL_law_894 : decode cL_law 894 = .ok (.aload_n 0, 1) := by decide +kernel
theorem dL_law_895 : decode cL_law 895 = .ok (.iload_n 3, 1) := by decide +kernel
theorem dL_law_896 : decode cL_law 896 = .ok (.iconst 1, 1) := by decide +kernel
theorem dL_law_897 : decode cL_law 897 = .ok (.iadd, 1) := by decide +kernel
theorem dL_law_898 : decode cL_law 898 = .ok (.iaload, 1) := by decide +kernel
theorem dL_law_899 : decode cL_law 899 = .ok (.invokevirtual 109, 3) := by decide +kernel
theorem dL_law_902 : decode cL_law 902 = .ok (.aload_n 2, 1) := by decide +kernel
theorem dL_law_903 : decode cL_law 903 = .ok (.aload_n 0, 1) := by decide +kernel
theorem dL_law_904 : decode cL_law 904 = .ok (.iload_n 3, 1) := by decide +kernel
theorem dL_law_905 : decode cL_law 905 = .ok (.iconst 1, 1) := by decide +kernel
theorem dL_law_906 : decode cL_law 906 = .ok (.iadd, 1) := by decide +kernel
theorem dL_law_907 : decode cL_law 907 = .ok (.iaload, 1) := by decide +kernel
theorem dL_law_908 : decode cL_law 908 = .ok (.invokevirtual 113, 3) := by decide +kernel
theorem dL_law_911 : decode cL_law 911 = .ok (.if_icmp .eq 249, 3) := by decide +kernel
theorem dL_law_914 : decode cL_law 914 = .ok (.iconst 0, 1) := by decide +kernel
theorem dL_law_915 : decode cL_law 915 = .ok (.ireturn, 1) := by decide +kernel
theorem dL_law_916 : decode cL_law 916 = .ok (.aload_n 1, 1) := by decide +kernel
theorem dL_law_917 : decode cL_law 917 = .ok (.aload_n 0, 1) := by decide +kernel
theorem dL_law_918 : decode cL_law 918 = .ok (.iload_n 3, 1) := by decide +kernel
theorem dL_law_919 : decode cL_law 919 = .ok (.iconst 1, 1) := by decide +kernel
theorem dL_law_920 : decode cL_law 920 = .ok (.iadd, 1) := by decide +kernel
theorem dL_law_921 : decode cL_law 921 = .ok (.iaload, 1) := by decide +kernel
theorem dL_law_922 : decode cL_law 922 = .ok (.aload_n 0, 1) := by decide +kernel
theorem dL_law_923 : decode cL_law 923 = .ok (.iload_n 3, 1) := by decide +kernel
theorem dL_law_924 : decode cL_law 924 = .ok (.iconst 2, 1) := by decide +kernel
theorem dL_law_925 : decode cL_law 925 = .ok (.iadd, 1) := by decide +kernel
theorem dL_law_926 : decode cL_law 926 = .ok (.iaload, 1) := by decide +kernel
theorem dL_law_927 : decode cL_law 927 = .ok (.aload_n 0, 1) := by decide +kernel
theorem dL_law_928 : decode cL_law 928 = .ok (.iload_n 3, 1) := by decide +kernel
theorem dL_law_929 : decode cL_law 929 = .ok (.iconst 3, 1) := by decide +kernel
theorem dL_law_930 : decode cL_law 930 = .ok (.iadd, 1) := by decide +kernel
theorem dL_law_931 : decode cL_law 931 = .ok (.iaload, 1) := by decide +kernel
theorem dL_law_932 : decode cL_law 932 = .ok (.invokevirtual 114, 3) := by decide +kernel
theorem dL_law_935 : decode cL_law 935 = .ok (.aload_n 2, 1) := by decide +kernel
theorem dL_law_936 : decode cL_law 936 = .ok (.aload_n 0, 1) := by decide +kernel
theorem dL_law_937 : decode cL_law 937 = .ok (.iload_n 3, 1) := by decide +kernel
theorem dL_law_938 : decode cL_law 938 = .ok (.iconst 1, 1) := by decide +kernel
theorem dL_law_939 : decode cL_law 939 = .ok (.iadd, 1) := by decide +kernel
theorem dL_law_940 : decode cL_law 940 = .ok (.iaload, 1) := by decide +kernel
theorem dL_law_941 : decode cL_law 941 = .ok (.aload_n 0, 1) := by decide +kernel
theorem dL_law_942 : decode cL_law 942 = .ok (.iload_n 3, 1) := by decide +kernel
theorem dL_law_943 : decode cL_law 943 = .ok (.iconst 2, 1) := by decide +kernel
theorem dL_law_944 : decode cL_law 944 = .ok (.iadd, 1) := by decide +kernel
theorem dL_law_945 : decode cL_law 945 = .ok (.iaload, 1) := by decide +kernel
theorem dL_law_946 : decode cL_law 946 = .ok (.aload_n 0, 1) := by decide +kernel
theorem dL_law_947 : decode cL_law 947 = .ok (.iload_n 3, 1) := by decide +kernel
theorem dL_law_948 : decode cL_law 948 = .ok (.iconst 3, 1) := by decide +kernel
theorem dL_law_949 : decode cL_law 949 = .ok (.iadd, 1) := by decide +kernel
theorem dL_law_950 : decode cL_law 950 = .ok (.iaload, 1) := by decide +kernel
theorem dL_law_951 : decode cL_law 951 = .ok (.invokevirtual 117, 3) := by decide +kernel
theorem dL_law_954 : decode cL_law 954 = .ok (.if_icmp .eq 206, 3) := by decide +kernel
theorem dL_law_957 : decode cL_law 957 = .ok (.iconst 0, 1) := by decide +kernel
theorem dL_law_958 : decode cL_law 958 = .ok (.ireturn, 1) := by decide +kernel
theorem dL_law_959 : decode cL_law 959 = .ok (.aload_n 1, 1) := by decide +kernel
theorem dL_law_960 : decode cL_law 960 = .ok (.aload_n 0, 1) := by decide +kernel
theorem dL_law_961 : decode cL_law 961 = .ok (.iload_n 3, 1) := by decide +kernel
theorem dL_law_962 : decode cL_law 962 = .ok (.iconst 1, 1) := by decide +kernel
theorem dL_law_963 : decode cL_law 963 = .ok (.iadd, 1) := by decide +kernel
theorem dL_law_964 : decode cL_law 964 = .ok (.iaload, 1) := by decide +kernel
theorem dL_law_965 : decode cL_law 965 = .ok (.aload_n 0, 1) := by decide +kernel
theorem dL_law_966 : decode cL_law 966 = .ok (.iload_n 3, 1) := by decide +kernel
theorem dL_law_967 : decode cL_law 967 = .ok (.iconst 2, 1) := by decide +kernel
theorem dL_law_968 : decode cL_law 968 = .ok (.iadd, 1) := by decide +kernel
theorem dL_law_969 : decode cL_law 969 = .ok (.iaload, 1) := by decide +kernel
theorem dL_law_970 : decode cL_law 970 = .ok (.invokevirtual 118, 3) := by decide +kernel
theorem dL_law_973 : decode cL_law 973 = .ok (.aload_n 2, 1) := by decide +kernel
theorem dL_law_974 : decode cL_law 974 = .ok (.aload_n 0, 1) := by decide +kernel
theorem dL_law_975 : decode cL_law 975 = .ok (.iload_n 3, 1) := by decide +kernel
theorem dL_law_976 : decode cL_law 976 = .ok (.iconst 1, 1) := by decide +kernel
theorem dL_law_977 : decode cL_law 977 = .ok (.iadd, 1) := by decide +kernel
theorem dL_law_978 : decode cL_law 978 = .ok (.iaload, 1) := by decide +kernel
theorem dL_law_979 : decode cL_law 979 = .ok (.aload_n 0, 1) := by decide +kernel
theorem dL_law_980 : decode cL_law 980 = .ok (.iload_n 3, 1) := by decide +kernel
theorem dL_law_981 : decode cL_law 981 = .ok (.iconst 2, 1) := by decide +kernel
theorem dL_law_982 : decode cL_law 982 = .ok (.iadd, 1) := by decide +kernel
theorem dL_law_983 : decode cL_law 983 = .ok (.iaload, 1) := by decide +kernel
theorem dL_law_984 : decode cL_law 984 = .ok (.invokevirtual 121, 3) := by decide +kernel
theorem dL_law_987 : decode cL_law 987 = .ok (.if_icmp .eq 173, 3) := by decide +kernel
theorem dL_law_990 : decode cL_law 990 = .ok (.iconst 0, 1) := by decide +kernel
theorem dL_law_991 : decode cL_law 991 = .ok (.ireturn, 1) := by decide +kernel
theorem dL_law_992 : decode cL_law 992 = .ok (.aload_n 1, 1) := by decide +kernel
theorem dL_law_993 : decode cL_law 993 = .ok (.aload_n 0, 1) := by decide +kernel
theorem dL_law_994 : decode cL_law 994 = .ok (.iload_n 3, 1) := by decide +kernel
theorem dL_law_995 : decode cL_law 995 = .ok (.iconst 1, 1) := by decide +kernel
theorem dL_law_996 : decode cL_law 996 = .ok (.iadd, 1) := by decide +kernel
theorem dL_law_997 : decode cL_law 997 = .ok (.iaload, 1) := by decide +kernel
theorem dL_law_998 : decode cL_law 998 = .ok (.aload_n 0, 1) := by decide +kernel
theorem dL_law_999 : decode cL_law 999 = .ok (.iload_n 3, 1) := by decide +kernel
theorem dL_law_1000 : decode cL_law 1000 = .ok (.iconst 2, 1) := by decide +kernel
theorem dL_law_1001 : decode cL_law 1001 = .ok (.iadd, 1) := by decide +kernel
theorem dL_law_1002 : decode cL_law 1002 = .ok (.iaload, 1) := by decide +kernel
theorem dL_law_1003 : decode cL_law 1003 = .ok (.invokevirtual 122, 3) := by decide +kernel
theorem dL_law_1006 : decode cL_law 1006 = .ok (.aload_n 2, 1) := by decide +kernel
theorem dL_law_1007 : decode cL_law 1007 = .ok (.aload_n 0, 1) := by decide +kernel
theorem dL_law_1008 : decode cL_law 1008 = .ok (.iload_n 3, 1) := by decide +kernel
theorem dL_law_1009 : decode cL_law 1009 = .ok (.iconst 1, 1) := by decide +kernel
theorem dL_law_1010 : decode cL_law 1010 = .ok (.iadd, 1) := by decide +kernel
theorem dL_law_1011 : decode cL_law 1011 = .ok (.iaload, 1) := by decide +kernel
theorem dL_law_1012 : decode cL_law 1012 = .ok (.aload_n 0, 1) := by decide +kernel
theorem dL_law_1013 : decode cL_law 1013 = .ok (.iload_n 3, 1) := by decide +kernel
theorem dL_law_1014 : decode cL_law 1014 = .ok (.iconst 2, 1) := by decide +kernel
theorem dL_law_1015 : decode cL_law 1015 = .ok (.iadd, 1) := by decide +kernel
theorem dL_law_1016 : decode cL_law 1016 = .ok (.iaload, 1) := by decide +kernel
theorem dL_law_1017 : decode cL_law 1017 = .ok (.invokevirtual 125, 3) := by decide +kernel
theorem dL_law_1020 : decode cL_law 1020 = .ok (.if_icmp .eq 140, 3) := by decide +kernel
theorem dL_law_1023 : decode cL_law 1023 = .ok (.iconst 0, 1) := by decide +kernel
theorem dL_law_1024 : decode cL_law 1024 = .ok (.ireturn, 1) := by decide +kernel
theorem dL_law_1025 : decode cL_law 1025 = .ok (.aload_n 1, 1) := by decide +kernel
theorem dL_law_1026 : decode cL_law 1026 = .ok (.aload_n 0, 1) := by decide +kernel
theorem dL_law_1027 : decode cL_law 1027 = .ok (.iload_n 3, 1) := by decide +kernel
theorem dL_law_1028 : decode cL_law 1028 = .ok (.iconst 1, 1) := by decide +kernel
theorem dL_law_1029 : decode cL_law 1029 = .ok (.iadd, 1) := by decide +kernel
theorem dL_law_1030 : decode cL_law 1030 = .ok (.iaload, 1) := by decide +kernel
theorem dL_law_1031 : decode cL_law 1031 = .ok (.invokevirtual 126, 3) := by decide +kernel
theorem dL_law_1034 : decode cL_law 1034 = .ok (.aload_n 2, 1) := by decide +kernel
theorem dL_law_1035 : decode cL_law 1035 = .ok (.aload_n 0, 1) := by decide +kernel
theorem dL_law_1036 : decode cL_law 1036 = .ok (.iload_n 3, 1) := by decide +kernel
theorem dL_law_1037 : decode cL_law 1037 = .ok (.iconst 1, 1) := by decide +kernel
theorem dL_law_1038 : decode cL_law 1038 = .ok (.iadd, 1) := by decide +kernel
theorem dL_law_1039 : decode cL_law 1039 = .ok (.iaload, 1) := by decide +kernel
theorem dL_law_1040 : decode cL_law 1040 = .ok (.invokevirtual 129, 3) := by decide +kernel
theorem dL_law_1043 : decode cL_law 1043 = .ok (.if_icmp .eq 117, 3) := by decide +kernel
theorem dL_law_1046 : decode cL_law 1046 = .ok (.iconst 0, 1) := by decide +kernel
theorem dL_law_1047 : decode cL_law 1047 = .ok (.ireturn, 1) := by decide +kernel
theorem dL_law_1048 : decode cL_law 1048 = .ok (.aload_n 1, 1) := by decide +kernel
theorem dL_law_1049 : decode cL_law 1049 = .ok (.aload_n 0, 1) := by decide +kernel
theorem dL_law_1050 : decode cL_law 1050 = .ok (.iload_n 3, 1) := by decide +kernel
theorem dL_law_1051 : decode cL_law 1051 = .ok (.iconst 1, 1) := by decide +kernel
theorem dL_law_1052 : decode cL_law 1052 = .ok (.iadd, 1) := by decide +kernel
theorem dL_law_1053 : decode cL_law 1053 = .ok (.iaload, 1) := by decide +kernel
theorem dL_law_1054 : decode cL_law 1054 = .ok (.invokevirtual 130, 3) := by decide +kernel
theorem dL_law_1057 : decode cL_law 1057 = .ok (.aload_n 2, 1) := by decide +kernel
theorem dL_law_1058 : decode cL_law 1058 = .ok (.aload_n 0, 1) := by decide +kernel
theorem dL_law_1059 : decode cL_law 1059 = .ok (.iload_n 3, 1) := by decide +kernel
theorem dL_law_1060 : decode cL_law 1060 = .ok (.iconst 1, 1) := by decide +kernel
theorem dL_law_1061 : decode cL_law 1061 = .ok (.iadd, 1) := by decide +kernel
theorem dL_law_1062 : decode cL_law 1062 = .ok (.iaload, 1) := by decide +kernel
theorem dL_law_1063 : decode cL_law 1063 = .ok (.invokevirtual 133, 3) := by decide +kernel
theorem dL_law_1066 : decode cL_law 1066 = .ok (.if_icmp .eq 94, 3) := by decide +kernel
theorem dL_law_1069 : decode cL_law 1069 = .ok (.iconst 0, 1) := by decide +kernel
theorem dL_law_1070 : decode cL_law 1070 = .ok (.ireturn, 1) := by decide +kernel
theorem dL_law_1071 : decode cL_law 1071 = .ok (.aload_n 1, 1) := by decide +kernel
theorem dL_law_1072 : decode cL_law 1072 = .ok (.aload_n 0, 1) := by decide +kernel
theorem dL_law_1073 : decode cL_law 1073 = .ok (.iload_n 3, 1) := by decide +kernel
theorem dL_law_1074 : decode cL_law 1074 = .ok (.iconst 1, 1) := by decide +kernel
theorem dL_law_1075 : decode cL_law 1075 = .ok (.iadd, 1) := by decide +kernel
theorem dL_law_1076 : decode cL_law 1076 = .ok (.iaload, 1) := by decide +kernel
theorem dL_law_1077 : decode cL_law 1077 = .ok (.aload_n 0, 1) := by decide +kernel
theorem dL_law_1078 : decode cL_law 1078 = .ok (.iload_n 3, 1) := by decide +kernel
theorem dL_law_1079 : decode cL_law 1079 = .ok (.iconst 2, 1) := by decide +kernel
theorem dL_law_1080 : decode cL_law 1080 = .ok (.iadd, 1) := by decide +kernel
theorem dL_law_1081 : decode cL_law 1081 = .ok (.iaload, 1) := by decide +kernel
theorem dL_law_1082 : decode cL_law 1082 = .ok (.invokevirtual 134, 3) := by decide +kernel
theorem dL_law_1085 : decode cL_law 1085 = .ok (.aload_n 2, 1) := by decide +kernel
theorem dL_law_1086 : decode cL_law 1086 = .ok (.aload_n 0, 1) := by decide +kernel
theorem dL_law_1087 : decode cL_law 1087 = .ok (.iload_n 3, 1) := by decide +kernel
theorem dL_law_1088 : decode cL_law 1088 = .ok (.iconst 1, 1) := by decide +kernel
theorem dL_law_1089 : decode cL_law 1089 = .ok (.iadd, 1) := by decide +kernel
theorem dL_law_1090 : decode cL_law 1090 = .ok (.iaload, 1) := by decide +kernel
theorem dL_law_1091 : decode cL_law 1091 = .ok (.aload_n 0, 1) := by decide +kernel
theorem dL_law_1092 : decode cL_law 1092 = .ok (.iload_n 3, 1) := by decide +kernel
theorem dL_law_1093 : decode cL_law 1093 = .ok (.iconst 2, 1) := by decide +kernel
theorem dL_law_1094 : decode cL_law 1094 = .ok (.iadd, 1) := by decide +kernel
theorem dL_law_1095 : decode cL_law 1095 = .ok (.iaload, 1) := by decide +kernel
theorem dL_law_1096 : decode cL_law 1096 = .ok (.invokevirtual 137, 3) := by decide +kernel
theorem dL_law_1099 : decode cL_law 1099 = .ok (.if_icmp .eq 61, 3) := by decide +kernel
theorem dL_law_1102 : decode cL_law 1102 = .ok (.iconst 0, 1) := by decide +kernel
theorem dL_law_1103 : decode cL_law 1103 = .ok (.ireturn, 1) := by decide +kernel
theorem dL_law_1104 : decode cL_law 1104 = .ok (.aload_n 1, 1) := by decide +kernel
theorem dL_law_1105 : decode cL_law 1105 = .ok (.aload_n 0, 1) := by decide +kernel
theorem dL_law_1106 : decode cL_law 1106 = .ok (.iload_n 3, 1) := by decide +kernel
theorem dL_law_1107 : decode cL_law 1107 = .ok (.iconst 1, 1) := by decide +kernel
theorem dL_law_1108 : decode cL_law 1108 = .ok (.iadd, 1) := by decide +kernel
theorem dL_law_1109 : decode cL_law 1109 = .ok (.iaload, 1) := by decide +kernel
theorem dL_law_1110 : decode cL_law 1110 = .ok (.aload_n 0, 1) := by decide +kernel
theorem dL_law_1111 : decode cL_law 1111 = .ok (.iload_n 3, 1) := by decide +kernel
theorem dL_law_1112 : decode cL_law 1112 = .ok (.iconst 2, 1) := by decide +kernel
theorem dL_law_1113 : decode cL_law 1113 = .ok (.iadd, 1) := by decide +kernel
theorem dL_law_1114 : decode cL_law 1114 = .ok (.iaload, 1) := by decide +kernel
theorem dL_law_1115 : decode cL_law 1115 = .ok (.invokevirtual 138, 3) := by decide +kernel
theorem dL_law_1118 : decode cL_law 1118 = .ok (.aload_n 2, 1) := by decide +kernel
theorem dL_law_1119 : decode cL_law 1119 = .ok (.aload_n 0, 1) := by decide +kernel
theorem dL_law_1120 : decode cL_law 1120 = .ok (.iload_n 3, 1) := by decide +kernel
theorem dL_law_1121 : decode cL_law 1121 = .ok (.iconst 1, 1) := by decide +kernel
theorem dL_law_1122 : decode cL_law 1122 = .ok (.iadd, 1) := by decide +kernel
theorem dL_law_1123 : decode cL_law 1123 = .ok (.iaload, 1) := by decide +kernel
theorem dL_law_1124 : decode cL_law 1124 = .ok (.aload_n 0, 1) := by decide +kernel
theorem dL_law_1125 : decode cL_law 1125 = .ok (.iload_n 3, 1) := by decide +kernel
theorem dL_law_1126 : decode cL_law 1126 = .ok (.iconst 2, 1) := by decide +kernel
theorem dL_law_1127 : decode cL_law 1127 = .ok (.iadd, 1) := by decide +kernel
theorem dL_law_1128 : decode cL_law 1128 = .ok (.iaload, 1) := by decide +kernel
theorem dL_law_1129 : decode cL_law 1129 = .ok (.invokevirtual 141, 3) := by decide +kernel
theorem dL_law_1132 : decode cL_law 1132 = .ok (.if_icmp .eq 28, 3) := by decide +kernel
theorem dL_law_1135 : decode cL_law 1135 = .ok (.iconst 0, 1) := by decide +kernel
theorem dL_law_1136 : decode cL_law 1136 = .ok (.ireturn, 1) := by decide +kernel
theorem dL_law_1137 : decode cL_law 1137 = .ok (.aload_n 1, 1) := by decide +kernel
theorem dL_law_1138 : decode cL_law 1138 = .ok (.aload_n 0, 1) := by decide +kernel
theorem dL_law_1139 : decode cL_law 1139 = .ok (.iload_n 3, 1) := by decide +kernel
theorem dL_law_1140 : decode cL_law 1140 = .ok (.iconst 1, 1) := by decide +kernel
theorem dL_law_1141 : decode cL_law 1141 = .ok (.iadd, 1) := by decide +kernel
theorem dL_law_1142 : decode cL_law 1142 = .ok (.iaload, 1) := by decide +kernel
theorem dL_law_1143 : decode cL_law 1143 = .ok (.invokevirtual 142, 3) := by decide +kernel
theorem dL_law_1146 : decode cL_law 1146 = .ok (.aload_n 2, 1) := by decide +kernel
theorem dL_law_1147 : decode cL_law 1147 = .ok (.aload_n 0, 1) := by decide +kernel
theorem dL_law_1148 : decode cL_law 1148 = .ok (.iload_n 3, 1) := by decide +kernel
theorem dL_law_1149 : decode cL_law 1149 = .ok (.iconst 1, 1) := by decide +kernel
theorem dL_law_1150 : decode cL_law 1150 = .ok (.iadd, 1) := by decide +kernel
theorem dL_law_1151 : decode cL_law 1151 = .ok (.iaload, 1) := by decide +kernel
theorem dL_law_1152 : decode cL_law 1152 = .ok (.invokevirtual 145, 3) := by decide +kernel
theorem dL_law_1155 : decode cL_law 1155 = .ok (.if_icmp .eq 5, 3) := by decide +kernel
theorem dL_law_1158 : decode cL_law 1158 = .ok (.iconst 0, 1) := by decide +kernel
theorem dL_law_1159 : decode cL_law 1159 = .ok (.ireturn, 1) := by decide +kernel
theorem dL_law_1160 : decode cL_law 1160 = .ok (.iinc 3 7, 3) := by decide +kernel
theorem dL_law_1163 : decode cL_law 1163 = .ok (.goto (-1145), 3) := by decide +kernel
theorem dL_law_1166 : decode cL_law 1166 = .ok (.iconst 1, 1) := by decide +kernel
theorem dL_law_1167 : decode cL_law 1167 = .ok (.ireturn, 1) := by decide +kernel
