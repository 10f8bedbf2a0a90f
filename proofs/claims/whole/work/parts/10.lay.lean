theorem ly_1 : ly 1 = .inl (1, 15) := by decide +kernel
theorem ly_2 : ly 2 = .inr 10 := by decide +kernel
theorem ly_3 : ly 3 = .inr 6 := by decide +kernel
theorem ly_4 : ly 4 = .inr 9 := by decide +kernel
theorem ly_5 : ly 5 = .inl (2, 1400) := by decide +kernel
theorem ly_6 : ly 6 = .inr 8 := by decide +kernel
theorem ly_7 : ly 7 = .inl (5, 8) := by decide +kernel
theorem ly_8 : ly 8 = .inl (0, 750) := by decide +kernel
theorem ly_9 : ly 9 = .inr 3 := by decide +kernel
theorem ly_10 : ly 10 = .inl (1, 6) := by decide +kernel
theorem ly_11 : ly 11 = .inl (0, 6) := by decide +kernel
theorem ly_12 : ly 12 = .inl (1, 72) := by decide +kernel
theorem ly_13 : ly 13 = .inl (1, 6) := by decide +kernel
theorem ly_14 : ly 14 = .inl (0, 6) := by decide +kernel
theorem ly_15 : ly 15 = .inl (0, 8) := by decide +kernel
theorem ly_16 : ly 16 = .inr 3 := by decide +kernel
theorem ly_17 : ly 17 = .inl (1, 6) := by decide +kernel
theorem ly_18 : ly 18 = .inl (0, 6) := by decide +kernel
theorem ly_19 : ly 19 = .inl (1, 72) := by decide +kernel
theorem ly_20 : ly 20 = .inl (1, 6) := by decide +kernel
theorem ly_21 : ly 21 = .inl (0, 6) := by decide +kernel
theorem ly_22 : ly 22 = .inl (0, 8) := by decide +kernel
theorem ly_23 : ly 23 = .inr 3 := by decide +kernel
theorem ly_24 : ly 24 = .inl (1, 6) := by decide +kernel
theorem ly_25 : ly 25 = .inl (0, 6) := by decide +kernel
theorem ly_26 : ly 26 = .inl (1, 72) := by decide +kernel
theorem ly_27 : ly 27 = .inl (1, 6) := by decide +kernel
theorem ly_28 : ly 28 = .inl (0, 6) := by decide +kernel
theorem ly_29 : ly 29 = .inl (0, 8) := by decide +kernel
theorem ly_30 : ly 30 = .inr 3 := by decide +kernel
theorem ly_31 : ly 31 = .inl (1, 6) := by decide +kernel
theorem ly_32 : ly 32 = .inl (0, 6) := by decide +kernel
theorem ly_33 : ly 33 = .inl (1, 72) := by decide +kernel
theorem ly_34 : ly 34 = .inl (1, 6) := by decide +kernel
theorem ly_35 : ly 35 = .inl (0, 6) := by decide +kernel
theorem ly_36 : ly 36 = .inl (0, 8) := by decide +kernel
theorem ly_37 : ly 37 = .inr 3 := by decide +kernel
theorem ly_38 : ly 38 = .inl (1, 6) := by decide +kernel
theorem ly_39 : ly 39 = .inl (0, 6) := by decide +kernel
theorem ly_40 : ly 40 = .inl (1, 72) := by decide +kernel
theorem ly_41 : ly 41 = .inl (1, 6) := by decide +kernel
theorem ly_42 : ly 42 = .inl (0, 6) := by decide +kernel
theorem ly_43 : ly 43 = .inl (0, 8) := by decide +kernel
theorem ly_44 : ly 44 = .inr 3 := by decide +kernel
theorem ly_45 : ly 45 = .inl (1, 6) := by decide +kernel
theorem ly_46 : ly 46 = .inl (0, 6) := by decide +kernel
theorem ly_47 : ly 47 = .inl (1, 72) := by decide +kernel
theorem ly_48 : ly 48 = .inl (1, 6) := by decide +kernel
theorem ly_49 : ly 49 = .inl (0, 6) := by decide +kernel
theorem ly_50 : ly 50 = .inl (0, 8) := by decide +kernel
theorem ly_51 : ly 51 = .inr 3 := by decide +kernel
theorem ly_52 : ly 52 = .inl (1, 6) := by decide +kernel
theorem ly_53 : ly 53 = .inl (0, 6) := by decide +kernel
theorem ly_54 : ly 54 = .inl (1, 72) := by decide +kernel
theorem ly_55 : ly 55 = .inl (1, 6) := by decide +kernel
theorem ly_56 : ly 56 = .inl (0, 6) := by decide +kernel
theorem ly_57 : ly 57 = .inl (0, 8) := by decide +kernel
theorem ly_58 : ly 58 = .inr 3 := by decide +kernel
theorem ly_59 : ly 59 = .inl (1, 6) := by decide +kernel
theorem ly_60 : ly 60 = .inl (0, 6) := by decide +kernel
theorem ly_61 : ly 61 = .inl (1, 72) := by decide +kernel
theorem ly_62 : ly 62 = .inl (1, 6) := by decide +kernel
theorem ly_63 : ly 63 = .inl (0, 6) := by decide +kernel
theorem ly_64 : ly 64 = .inl (0, 8) := by decide +kernel
theorem ly_65 : ly 65 = .inl (4, 4) := by decide +kernel
theorem ly_66 : ly 66 = .inr 4 := by decide +kernel
theorem ly_67 : ly 67 = .inl (0, 6) := by decide +kernel
theorem ly_68 : ly 68 = .inl (0, 150) := by decide +kernel
theorem ly_69 : ly 69 = .inr 2 := by decide +kernel
theorem ly_70 : ly 70 = .inl (0, 40) := by decide +kernel
theorem ly_71 : ly 71 = .inl (0, 40) := by decide +kernel
theorem ly_72 : ly 72 = .inl (0, 40) := by decide +kernel
theorem ly_73 : ly 73 = .inl (0, 40) := by decide +kernel
theorem ly_74 : ly 74 = .inl (0, 40) := by decide +kernel
theorem ly_75 : ly 75 = .inl (0, 40) := by decide +kernel
theorem ly_76 : ly 76 = .inl (0, 40) := by decide +kernel
theorem ly_77 : ly 77 = .inl (0, 40) := by decide +kernel
theorem ly_78 : ly 78 = .inl (1, 160) := by decide +kernel
theorem ly_79 : ly 79 = .inr 1 := by decide +kernel
theorem ly_80 : ly 80 = .inl (0, 5) := by decide +kernel
theorem ly_81 : ly 81 = .inl (0, 5) := by decide +kernel
theorem ly_82 : ly 82 = .inl (0, 9) := by decide +kernel
theorem ly_83 : ly 83 = .inl (0, 9) := by decide +kernel
theorem ly_84 : ly 84 = .inl (0, 64) := by decide +kernel
theorem ly_85 : ly 85 = .inr 7 := by decide +kernel
theorem ly_86 : ly 86 = .inl (0, 9) := by decide +kernel
theorem ly_87 : ly 87 = .inl (3, 45) := by decide +kernel
theorem ly_88 : ly 88 = .inl (0, 9) := by decide +kernel
theorem ly_89 : ly 89 = .inl (0, 120) := by decide +kernel
theorem ly_90 : ly 90 = .inl (0, 120) := by decide +kernel
theorem ly_91 : ly 91 = .inl (1, 120) := by decide +kernel
theorem ly_92 : ly 92 = .inl (1, 120) := by decide +kernel
theorem ly_93 : ly 93 = .inr 5 := by decide +kernel
theorem ly_94 : ly 94 = .inl (0, 200) := by decide +kernel
theorem ly_95 : ly 95 = .inl (0, 200) := by decide +kernel
theorem ly_96 : ly 96 = .inl (0, 200) := by decide +kernel
theorem ly_97 : ly 97 = .inl (0, 200) := by decide +kernel
theorem ly_98 : ly 98 = .inl (0, 200) := by decide +kernel
theorem ly_99 : ly 99 = .inl (0, 200) := by decide +kernel
theorem ly_100 : ly 100 = .inl (0, 200) := by decide +kernel
theorem ly_101 : ly 101 = .inr 0 := by decide +kernel
theorem ly_102 : ly 102 = .inl (0, 60) := by decide +kernel
theorem ly_103 : ly 103 = .inl (0, 60) := by decide +kernel
theorem ly_104 : ly 104 = .inl (0, 60) := by decide +kernel
theorem ly_105 : ly 105 = .inr 11 := by decide +kernel
theorem ly_106 : ly 106 = .inl (2, 1420) := by decide +kernel
theorem ly_107 : ly 107 = .inl (2, 1400) := by decide +kernel
theorem ly_108 : ly 108 = .inl (0, 4) := by decide +kernel
theorem ly_109 : ly 109 = .inl (3, 4) := by decide +kernel
theorem ly_110 : ly 110 = .inl (3, 40) := by decide +kernel
theorem ly_111 : ly 111 = .inl (0, 40) := by decide +kernel
theorem ly_112 : ly 112 = .inl (0, 240) := by decide +kernel
theorem ly_113 : ly 113 = .inl (0, 40) := by decide +kernel
theorem ly_114 : ly 114 = .inl (0, 240) := by decide +kernel
theorem ly_115 : ly 115 = .inl (0, 40) := by decide +kernel
theorem ly_116 : ly 116 = .inl (0, 40) := by decide +kernel
theorem ly_117 : ly 117 = .inl (0, 320) := by decide +kernel
theorem ly_118 : ly 118 = .inl (0, 320) := by decide +kernel
theorem ly_119 : ly 119 = .inl (0, 40) := by decide +kernel
theorem ly_120 : ly 120 = .inl (0, 40) := by decide +kernel
theorem ly_121 : ly 121 = .inl (0, 40) := by decide +kernel
theorem ly_122 : ly 122 = .inl (0, 40) := by decide +kernel
theorem ly_123 : ly 123 = .inl (0, 7500) := by decide +kernel
theorem ly_124 : ly 124 = .inl (0, 7500) := by decide +kernel
theorem ly_125 : ly 125 = .inl (0, 5) := by decide +kernel
theorem ly_126 : ly 126 = .inl (1, 240) := by decide +kernel
theorem ly_127 : ly 127 = .inl (1, 2880) := by decide +kernel
theorem ly_128 : ly 128 = .inl (1, 240) := by decide +kernel
theorem ly_129 : ly 129 = .inl (0, 80) := by decide +kernel
theorem ly_130 : ly 130 = .inl (0, 80) := by decide +kernel
theorem ly_131 : ly 131 = .inl (0, 40) := by decide +kernel
theorem ly_132 : ly 132 = .inl (0, 40) := by decide +kernel
theorem ly_133 : ly 133 = .inl (0, 40) := by decide +kernel
theorem ly_134 : ly 134 = .inl (0, 40) := by decide +kernel
theorem ly_135 : ly 135 = .inl (0, 40) := by decide +kernel
theorem ly_136 : ly 136 = .inl (0, 40) := by decide +kernel
theorem ly_137 : ly 137 = .inl (0, 40) := by decide +kernel
theorem ly_138 : ly 138 = .inl (0, 40) := by decide +kernel
theorem ly_139 : ly 139 = .inl (1, 160) := by decide +kernel
theorem ly_140 : ly 140 = .inl (0, 200) := by decide +kernel
theorem ly_141 : ly 141 = .inl (0, 6) := by decide +kernel
theorem ly_142 : ly 142 = .inl (0, 64) := by decide +kernel
theorem ly_143 : ly 143 = .inl (0, 5) := by decide +kernel
theorem ly_144 : ly 144 = .inl (0, 5) := by decide +kernel
theorem ly_145 : ly 145 = .inl (0, 9) := by decide +kernel
theorem ly_146 : ly 146 = .inl (0, 9) := by decide +kernel
theorem ly_147 : ly 147 = .inl (0, 2560) := by decide +kernel
theorem ly_148 : ly 148 = .inl (0, 3072) := by decide +kernel
theorem ly_149 : ly 149 = .inl (0, 9) := by decide +kernel
theorem ly_150 : ly 150 = .inl (0, 9) := by decide +kernel
theorem ly_151 : ly 151 = .inl (0, 200) := by decide +kernel
theorem ly_152 : ly 152 = .inl (0, 200) := by decide +kernel
theorem ly_153 : ly 153 = .inl (0, 200) := by decide +kernel
theorem ly_154 : ly 154 = .inl (0, 200) := by decide +kernel
theorem ly_155 : ly 155 = .inl (0, 200) := by decide +kernel
theorem ly_156 : ly 156 = .inl (0, 200) := by decide +kernel
theorem ly_157 : ly 157 = .inl (0, 1000) := by decide +kernel
theorem ly_158 : ly 158 = .inl (0, 61) := by decide +kernel
theorem ly_159 : ly 159 = .inl (0, 61) := by decide +kernel
theorem ly_160 : ly 160 = .inl (0, 61) := by decide +kernel
theorem fk_0_0 : fk 0 0 = 0 := by decide +kernel
theorem fk_0_1 : fk 0 1 = 4 := by decide +kernel
theorem fk_0_2 : fk 0 2 = 5 := by decide +kernel
theorem fk_0_3 : fk 0 3 = 6 := by decide +kernel
theorem fk_1_0 : fk 1 0 = 0 := by decide +kernel
theorem fk_1_1 : fk 1 1 = 0 := by decide +kernel
theorem fk_1_2 : fk 1 2 = 0 := by decide +kernel
theorem fk_1_3 : fk 1 3 = 4 := by decide +kernel
theorem fk_1_4 : fk 1 4 = 5 := by decide +kernel
theorem fk_1_5 : fk 1 5 = 6 := by decide +kernel
theorem fk_1_6 : fk 1 6 = 7 := by decide +kernel
theorem fk_1_7 : fk 1 7 = 8 := by decide +kernel
theorem fk_2_0 : fk 2 0 = 0 := by decide +kernel
theorem fk_2_1 : fk 2 1 = 4 := by decide +kernel
theorem fk_2_2 : fk 2 2 = 5 := by decide +kernel
theorem fk_2_3 : fk 2 3 = 6 := by decide +kernel
theorem fk_2_4 : fk 2 4 = 7 := by decide +kernel
theorem fk_2_5 : fk 2 5 = 8 := by decide +kernel
theorem fk_2_6 : fk 2 6 = 9 := by decide +kernel
theorem fk_2_7 : fk 2 7 = 10 := by decide +kernel
theorem fk_2_8 : fk 2 8 = 11 := by decide +kernel
theorem fk_2_9 : fk 2 9 = 12 := by decide +kernel
theorem fk_3_0 : fk 3 0 = 0 := by decide +kernel
theorem fk_3_1 : fk 3 1 = 0 := by decide +kernel
theorem fk_3_2 : fk 3 2 = 0 := by decide +kernel
theorem fk_3_3 : fk 3 3 = 0 := by decide +kernel
theorem fk_3_4 : fk 3 4 = 0 := by decide +kernel
theorem fk_3_5 : fk 3 5 = 0 := by decide +kernel
theorem fk_3_6 : fk 3 6 = 0 := by decide +kernel
theorem fk_3_7 : fk 3 7 = 4 := by decide +kernel
theorem fk_3_8 : fk 3 8 = 5 := by decide +kernel
theorem fk_3_9 : fk 3 9 = 6 := by decide +kernel
theorem fk_3_10 : fk 3 10 = 7 := by decide +kernel
theorem fk_3_11 : fk 3 11 = 8 := by decide +kernel
theorem fk_3_12 : fk 3 12 = 9 := by decide +kernel
theorem fk_4_0 : fk 4 0 = 4 := by decide +kernel
theorem fk_4_1 : fk 4 1 = 5 := by decide +kernel
theorem fk_4_2 : fk 4 2 = 0 := by decide +kernel
theorem fk_5_0 : fk 5 0 = 0 := by decide +kernel
theorem fk_5_1 : fk 5 1 = 0 := by decide +kernel
theorem fk_5_2 : fk 5 2 = 4 := by decide +kernel
theorem fk_5_3 : fk 5 3 = 5 := by decide +kernel
theorem fk_5_4 : fk 5 4 = 6 := by decide +kernel
theorem fk_5_5 : fk 5 5 = 7 := by decide +kernel
theorem fk_5_6 : fk 5 6 = 8 := by decide +kernel
theorem fk_5_7 : fk 5 7 = 9 := by decide +kernel
theorem fk_5_8 : fk 5 8 = 10 := by decide +kernel
theorem fk_6_0 : fk 6 0 = 4 := by decide +kernel
theorem fk_6_1 : fk 6 1 = 0 := by decide +kernel
theorem fk_6_2 : fk 6 2 = 0 := by decide +kernel
theorem fk_6_3 : fk 6 3 = 2 := by decide +kernel
theorem fk_6_4 : fk 6 4 = 0 := by decide +kernel
theorem fk_6_5 : fk 6 5 = 0 := by decide +kernel
theorem fk_7_0 : fk 7 0 = 4 := by decide +kernel
theorem fk_7_1 : fk 7 1 = 5 := by decide +kernel
theorem fk_7_2 : fk 7 2 = 6 := by decide +kernel
theorem fk_7_3 : fk 7 3 = 0 := by decide +kernel
theorem fk_7_4 : fk 7 4 = 0 := by decide +kernel
theorem fk_7_5 : fk 7 5 = 2 := by decide +kernel
theorem fk_7_6 : fk 7 6 = 2 := by decide +kernel
theorem fk_7_7 : fk 7 7 = 2 := by decide +kernel
theorem fk_7_8 : fk 7 8 = 2 := by decide +kernel
theorem fk_8_0 : fk 8 0 = 4 := by decide +kernel
theorem fk_8_1 : fk 8 1 = 5 := by decide +kernel
theorem fk_8_2 : fk 8 2 = 0 := by decide +kernel
theorem fk_8_3 : fk 8 3 = 0 := by decide +kernel
theorem fk_9_0 : fk 9 0 = 4 := by decide +kernel
theorem fk_9_1 : fk 9 1 = 0 := by decide +kernel
theorem fk_9_2 : fk 9 2 = 0 := by decide +kernel
theorem fk_9_3 : fk 9 3 = 0 := by decide +kernel
theorem fk_9_4 : fk 9 4 = 0 := by decide +kernel
theorem fk_9_5 : fk 9 5 = 1 := by decide +kernel
theorem fk_9_6 : fk 9 6 = 0 := by decide +kernel
theorem fk_10_0 : fk 10 0 = 4 := by decide +kernel
theorem fk_10_1 : fk 10 1 = 66 := by decide +kernel
theorem fk_10_2 : fk 10 2 = 67 := by decide +kernel
theorem fk_10_3 : fk 10 3 = 70 := by decide +kernel
theorem fk_10_4 : fk 10 4 = 80 := by decide +kernel
theorem fk_10_5 : fk 10 5 = 86 := by decide +kernel
theorem fk_10_6 : fk 10 6 = 94 := by decide +kernel
theorem fk_10_7 : fk 10 7 = 102 := by decide +kernel
theorem fk_11_0 : fk 11 0 = 4 := by decide +kernel
theorem fk_11_1 : fk 11 1 = 5 := by decide +kernel
theorem fk_11_2 : fk 11 2 = 0 := by decide +kernel
theorem fk_11_3 : fk 11 3 = 0 := by decide +kernel
theorem fk_11_4 : fk 11 4 = 0 := by decide +kernel
theorem fk_11_5 : fk 11 5 = 0 := by decide +kernel
theorem fk_11_6 : fk 11 6 = 0 := by decide +kernel
theorem fk_11_7 : fk 11 7 = 0 := by decide +kernel
theorem fk_11_8 : fk 11 8 = 0 := by decide +kernel
theorem fk_11_9 : fk 11 9 = 0 := by decide +kernel
theorem fk_11_10 : fk 11 10 = 1 := by decide +kernel
theorem fk_11_11 : fk 11 11 = 6 := by decide +kernel
theorem fk_11_12 : fk 11 12 = 0 := by decide +kernel
theorem fk_11_13 : fk 11 13 = 0 := by decide +kernel
theorem fk_11_14 : fk 11 14 = 0 := by decide +kernel
theorem fk_11_15 : fk 11 15 = 7 := by decide +kernel
theorem fk_11_16 : fk 11 16 = 8 := by decide +kernel
theorem fk_11_17 : fk 11 17 = 9 := by decide +kernel
theorem fk_11_18 : fk 11 18 = 10 := by decide +kernel
theorem fk_11_19 : fk 11 19 = 11 := by decide +kernel
theorem fk_11_20 : fk 11 20 = 12 := by decide +kernel
theorem fk_11_21 : fk 11 21 = 13 := by decide +kernel
theorem fk_11_22 : fk 11 22 = 14 := by decide +kernel
theorem fk_11_23 : fk 11 23 = 15 := by decide +kernel
theorem fk_11_24 : fk 11 24 = 16 := by decide +kernel
theorem fk_11_25 : fk 11 25 = 17 := by decide +kernel
theorem fk_11_26 : fk 11 26 = 18 := by decide +kernel
theorem fk_11_27 : fk 11 27 = 19 := by decide +kernel
theorem fk_11_28 : fk 11 28 = 20 := by decide +kernel
theorem fk_11_29 : fk 11 29 = 21 := by decide +kernel
theorem fk_11_30 : fk 11 30 = 22 := by decide +kernel
theorem fk_11_31 : fk 11 31 = 23 := by decide +kernel
theorem fk_11_32 : fk 11 32 = 24 := by decide +kernel
theorem fk_11_33 : fk 11 33 = 25 := by decide +kernel
theorem fk_11_34 : fk 11 34 = 26 := by decide +kernel
theorem fk_11_35 : fk 11 35 = 27 := by decide +kernel
theorem fk_11_36 : fk 11 36 = 28 := by decide +kernel
theorem fk_11_37 : fk 11 37 = 0 := by decide +kernel
theorem fk_11_38 : fk 11 38 = 0 := by decide +kernel
theorem fk_11_39 : fk 11 39 = 29 := by decide +kernel
theorem fk_11_40 : fk 11 40 = 30 := by decide +kernel
theorem fk_11_41 : fk 11 41 = 31 := by decide +kernel
theorem fk_11_42 : fk 11 42 = 32 := by decide +kernel
theorem fk_11_43 : fk 11 43 = 33 := by decide +kernel
theorem fk_11_44 : fk 11 44 = 34 := by decide +kernel
theorem fk_11_45 : fk 11 45 = 35 := by decide +kernel
theorem fk_11_46 : fk 11 46 = 36 := by decide +kernel
theorem fk_11_47 : fk 11 47 = 37 := by decide +kernel
theorem fk_11_48 : fk 11 48 = 0 := by decide +kernel
theorem fk_11_49 : fk 11 49 = 38 := by decide +kernel
theorem fk_11_50 : fk 11 50 = 39 := by decide +kernel
theorem fk_11_51 : fk 11 51 = 40 := by decide +kernel
theorem fk_11_52 : fk 11 52 = 41 := by decide +kernel
theorem fk_11_53 : fk 11 53 = 42 := by decide +kernel
theorem fk_11_54 : fk 11 54 = 43 := by decide +kernel
theorem fk_11_55 : fk 11 55 = 44 := by decide +kernel
theorem fk_11_56 : fk 11 56 = 0 := by decide +kernel
theorem fk_11_57 : fk 11 57 = 0 := by decide +kernel
theorem fk_11_58 : fk 11 58 = 0 := by decide +kernel
theorem fk_11_59 : fk 11 59 = 45 := by decide +kernel
theorem fk_11_60 : fk 11 60 = 46 := by decide +kernel
theorem fk_11_61 : fk 11 61 = 47 := by decide +kernel
theorem fk_11_62 : fk 11 62 = 48 := by decide +kernel
theorem fk_11_63 : fk 11 63 = 0 := by decide +kernel
theorem fk_11_64 : fk 11 64 = 49 := by decide +kernel
theorem fk_11_65 : fk 11 65 = 50 := by decide +kernel
theorem fk_11_66 : fk 11 66 = 51 := by decide +kernel
theorem fk_11_67 : fk 11 67 = 52 := by decide +kernel
theorem fk_11_68 : fk 11 68 = 53 := by decide +kernel
theorem fk_11_69 : fk 11 69 = 54 := by decide +kernel
theorem fk_11_70 : fk 11 70 = 0 := by decide +kernel
theorem fk_11_71 : fk 11 71 = 0 := by decide +kernel
theorem fk_11_72 : fk 11 72 = 55 := by decide +kernel
theorem fk_11_73 : fk 11 73 = 56 := by decide +kernel
theorem fk_11_74 : fk 11 74 = 57 := by decide +kernel
theorem fk_11_75 : fk 11 75 = 58 := by decide +kernel
theorem fk_11_76 : fk 11 76 = 0 := by decide +kernel
/-- fewer known locals -/
def ax_le : List (Option Value) → List (Option Value) → Prop
  | [], _ => True
  | none :: t', _ :: t => ax_le t' t
  | some v :: t', x :: t => x = some v ∧ ax_le t' t
  | _ :: _, [] => False
theorem ax_le_get : ∀ (L' L : List (Option Value)), ax_le L' L → ∀ (i : Nat) (v : Value), L'[i]? = some (some v) → L[i]? = some (some v)
  | [], _, _, i, v, h => by simp at h
  | none :: t', x :: t, hl, i, v, h => by
    cases i with
    | zero => simp at h
    | succ i => simpa using ax_le_get t' t hl i v (by simpa using h)
  | some w :: t', x :: t, hl, i, v, h => by
    cases i with
    | zero => simp at h; subst h; simp [hl.1]
    | succ i => simpa using ax_le_get t' t hl.2 i v (by simpa using h)
  | none :: _, [], hl, _, _, _ => hl.elim
  | some _ :: _, [], hl, _, _, _ => hl.elim
theorem ax_forget {X : ax_X} {pc k n : Nat} {L L' : List (Option Value)} {st : List Value} {h : ax_H} (hl : ax_le L' L) (kk : ax_j X pc L' st h k n) : ax_j X pc L st h k n := by
  obtain ⟨p, l, e, R, s, m, args, below, meth, c, Z, D, g⟩ := X
  exact fun H locs ls hR hS hL => kk H locs ls hR hS ⟨hL.1, hL.2.1, fun i v hv => hL.2.2 i v (ax_le_get _ _ hl i v hv)⟩
section TXL
variable {X : ax_X} {M : ax_M} {d pc k n : Nat} {L : List (Option Value)} {st : List Value} {h : ax_H}
theorem tx_lcmp_eq (hX : ax_ok X M d) {x y : Int64} {off : Int} {tgt : Nat} (hd : decode M.2.1 pc = .ok (.lcmp, 1)) (hd2 : decode M.2.1 (pc + 1) = .ok (.ifCond .eq off, 3)) (ht : ((pc + 1 : Nat) : Int) + off = (tgt : Int)) (kt : x = y → ax_j X tgt L st h k n) (kf : ¬ x = y → ax_j X (pc + 4) L st h k n) : ax_j X pc L (.long y :: .long x :: st) h k n :=
  ax_lcmp hX hd (ax_if_eq hX hd2 ht (fun c => kt ((lg_cmp_eq x y).mp c)) (fun c => kf (fun q => c ((lg_cmp_eq x y).mpr q))))
theorem tx_lcmp_ne (hX : ax_ok X M d) {x y : Int64} {off : Int} {tgt : Nat} (hd : decode M.2.1 pc = .ok (.lcmp, 1)) (hd2 : decode M.2.1 (pc + 1) = .ok (.ifCond .ne off, 3)) (ht : ((pc + 1 : Nat) : Int) + off = (tgt : Int)) (kt : ¬ x = y → ax_j X tgt L st h k n) (kf : x = y → ax_j X (pc + 4) L st h k n) : ax_j X pc L (.long y :: .long x :: st) h k n :=
  ax_lcmp hX hd (ax_if_ne hX hd2 ht (fun c => kt (fun q => c ((lg_cmp_eq x y).mpr q))) (fun c => kf ((lg_cmp_eq x y).mp c)))
theorem tx_lcmp_gt (hX : ax_ok X M d) {x y : Int64} {off : Int} {tgt : Nat} (hd : decode M.2.1 pc = .ok (.lcmp, 1)) (hd2 : decode M.2.1 (pc + 1) = .ok (.ifCond .gt off, 3)) (ht : ((pc + 1 : Nat) : Int) + off = (tgt : Int)) (kt : y < x → ax_j X tgt L st h k n) (kf : ¬ y < x → ax_j X (pc + 4) L st h k n) : ax_j X pc L (.long y :: .long x :: st) h k n :=
  ax_lcmp hX hd (ax_if_gt hX hd2 ht (fun c => kt ((lg_cmp_gt x y).mp c)) (fun c => kf (fun q => c ((lg_cmp_gt x y).mpr q))))
end TXL
/-- what a method answers: an int, a long, nothing, a reference or null; the heap behind it is a typed one -/
def ti (L sz : Nat) (Q : Int32 → tT → Prop) : Option Value → ax_H → Prop := fun r h => ∃ (v : Int32) (T : tT), r = some (.int v) ∧ h = th L sz T ∧ Q v T
def tl (L sz : Nat) (Q : Int64 → tT → Prop) : Option Value → ax_H → Prop := fun r h => ∃ (v : Int64) (T : tT), r = some (.long v) ∧ h = th L sz T ∧ Q v T
def tv (L sz : Nat) (Q : tT → Prop) : Option Value → ax_H → Prop := fun r h => ∃ T : tT, r = none ∧ h = th L sz T ∧ Q T
def to (L sz : Nat) (Q : Option Nat → tT → Prop) : Option Value → ax_H → Prop := fun r h => ∃ (v : Option Nat) (T : tT), r = some (va_rf v) ∧ h = th L sz T ∧ Q v T
def tiK (d : Nat) (M : ax_M) (A : List Value) (L sz : Nat) (T : tT) (Q : Int32 → tT → Prop) : Prop := ax_K d M A (th L sz T) (ti L sz Q)
def tlK (d : Nat) (M : ax_M) (A : List Value) (L sz : Nat) (T : tT) (Q : Int64 → tT → Prop) : Prop := ax_K d M A (th L sz T) (tl L sz Q)
def tvK (d : Nat) (M : ax_M) (A : List Value) (L sz : Nat) (T : tT) (Q : tT → Prop) : Prop := ax_K d M A (th L sz T) (tv L sz Q)
def toK (d : Nat) (M : ax_M) (A : List Value) (L sz : Nat) (T : tT) (Q : Option Nat → tT → Prop) : Prop := ax_K d M A (th L sz T) (to L sz Q)
/-- a GRADE's cells, a SYLLABUS's cells, an array's cell -/
def tgr (sz q : Nat) : Prop := 2 ≤ q ∧ q + 6 < sz ∧ ly q = .inr 3 ∧ ly (q + 1) = .inl (1, 6) ∧ ly (q + 2) = .inl (0, 6) ∧ ly (q + 3) = .inl (1, 72) ∧ ly (q + 4) = .inl (1, 6) ∧ ly (q + 5) = .inl (0, 6) ∧ ly (q + 6) = .inl (0, 8)
theorem tgr.ly0 {sz q : Nat} (h : tgr sz q) : ly q = .inr 3 := h.2.2.1
theorem tgr.ly1 {sz q : Nat} (h : tgr sz q) : ly (q + 1) = .inl (1, 6) := h.2.2.2.1
theorem tgr.ly2 {sz q : Nat} (h : tgr sz q) : ly (q + 2) = .inl (0, 6) := h.2.2.2.2.1
theorem tgr.ly3 {sz q : Nat} (h : tgr sz q) : ly (q + 3) = .inl (1, 72) := h.2.2.2.2.2.1
theorem tgr.ly4 {sz q : Nat} (h : tgr sz q) : ly (q + 4) = .inl (1, 6) := h.2.2.2.2.2.2.1
theorem tgr.ly5 {sz q : Nat} (h : tgr sz q) : ly (q + 5) = .inl (0, 6) := h.2.2.2.2.2.2.2.1
theorem tgr.ly6 {sz q : Nat} (h : tgr sz q) : ly (q + 6) = .inl (0, 8) := h.2.2.2.2.2.2.2.2
theorem tgr.ge {sz q : Nat} (h : tgr sz q) (o : Nat) : 2 ≤ q + o := by have := h.1; omega
theorem tgr.ne {sz q : Nat} (h : tgr sz q) (o : Nat) (_ : o < 7) : q + o ≠ 0 := by have := h.1; omega
theorem tgr.lt {sz q : Nat} (h : tgr sz q) (o : Nat) (ho : o < 7) : q + o < sz := by have := h.2.1; omega
def tsy (sz p : Nat) : Prop := 2 ≤ p ∧ p + 58 < sz ∧ ly p = .inr 8 ∧ ly (p + 1) = .inl (5, 8) ∧ ly (p + 2) = .inl (0, 750) ∧ ∀ i, i < 8 → tgr sz (p + 3 + 7 * i)
theorem tsy.ly0 {sz p : Nat} (h : tsy sz p) : ly p = .inr 8 := h.2.2.1
theorem tsy.ly1 {sz p : Nat} (h : tsy sz p) : ly (p + 1) = .inl (5, 8) := h.2.2.2.1
theorem tsy.ly2 {sz p : Nat} (h : tsy sz p) : ly (p + 2) = .inl (0, 750) := h.2.2.2.2.1
theorem tsy.ge {sz p : Nat} (h : tsy sz p) (o : Nat) : 2 ≤ p + o := by have := h.1; omega
theorem tsy.ne {sz p : Nat} (h : tsy sz p) (o : Nat) (_ : o < 3) : p + o ≠ 0 := by have := h.1; omega
theorem tsy.lt {sz p : Nat} (h : tsy sz p) (o : Nat) (ho : o < 3) : p + o < sz := by have := h.2.1; omega
def tar (sz p t n : Nat) : Prop := 2 ≤ p ∧ p < sz ∧ ly p = .inl (t, n)
theorem tar.ly {sz p t n : Nat} (h : tar sz p t n) : ly p = .inl (t, n) := h.2.2
theorem tar.ge {sz p t n : Nat} (h : tar sz p t n) : 2 ≤ p := h.1
theorem tar.ne {sz p t n : Nat} (h : tar sz p t n) : p ≠ 0 := by have := h.1; omega
theorem tar.lt {sz p t n : Nat} (h : tar sz p t n) : p < sz := h.2.1
