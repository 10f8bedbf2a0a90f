theorem dX11_is_1 : decode cX11_is 1 = .ok (.getfield 61, 3) := by decide +kernel
theorem dX11_is_4 : decode cX11_is 4 = .ok (.iconst 5, 1) := by decide +kernel
theorem dX11_is_5 : decode cX11_is 5 = .ok (.if_icmp .ne 19, 3) := by decide +kernel
theorem dX11_is_8 : decode cX11_is 8 = .ok (.aload_n 0, 1) := by decide +kernel
theorem dX11_is_9 : decode cX11_is 9 = .ok (.aload_n 0, 1) := by decide +kernel
theorem dX11_is_10 : decode cX11_is 10 = .ok (.getfield 54, 3) := by decide +kernel
theorem dX11_is_13 : decode cX11_is 13 = .ok (.invokevirtual 57, 3) := by decide +kernel
theorem dX11_is_16 : decode cX11_is 16 = .ok (.iload_n 1, 1) := by decide +kernel
theorem dX11_is_17 : decode cX11_is 17 = .ok (.if_icmp .ne 7, 3) := by decide +kernel
theorem dX11_is_20 : decode cX11_is 20 = .ok (.iconst 1, 1) := by decide +kernel
theorem dX11_is_21 : decode cX11_is 21 = .ok (.goto 4, 3) := by decide +kernel
theorem dX11_is_24 : decode cX11_is 24 = .ok (.iconst 0, 1) := by decide +kernel
theorem dX11_is_25 : decode cX11_is 25 = .ok (.ireturn, 1) := by decide +kernel
theorem dX11_isWord_0 : decode cX11_isWord 0 = .ok (.aload_n 0, 1) := by decide +kernel
theorem dX11_isWord_1 : decode cX11_isWord 1 = .ok (.getfield 61, 3) := by decide +kernel
theorem dX11_isWord_4 : decode cX11_isWord 4 = .ok (.iconst 3, 1) := by decide +kernel
theorem dX11_isWord_5 : decode cX11_isWord 5 = .ok (.if_icmp .ne 16, 3) := by decide +kernel
theorem dX11_isWord_8 : decode cX11_isWord 8 = .ok (.aload_n 0, 1) := by decide +kernel
theorem dX11_isWord_9 : decode cX11_isWord 9 = .ok (.getfield 71, 3) := by decide +kernel
theorem dX11_isWord_12 : decode cX11_isWord 12 = .ok (.lload_n 1, 1) := by decide +kernel
theorem dX11_isWord_13 : decode cX11_isWord 13 = .ok (.lcmp, 1) := by decide +kernel
theorem dX11_isWord_14 : decode cX11_isWord 14 = .ok (.ifCond .ne 7, 3) := by decide +kernel
theorem dX11_isWord_17 : decode cX11_isWord 17 = .ok (.iconst 1, 1) := by decide +kernel
theorem dX11_isWord_18 : decode cX11_isWord 18 = .ok (.goto 4, 3) := by decide +kernel
theorem dX11_isWord_21 : decode cX11_isWord 21 = .ok (.iconst 0, 1) := by decide +kernel
theorem dX11_isWord_22 : decode cX11_isWord 22 = .ok (.ireturn, 1) := by decide +kernel
theorem dX11_wrong_0 : decode cX11_wrong 0 = .ok (.aload_n 0, 1) := by decide +kernel
theorem dX11_wrong_1 : decode cX11_wrong 1 = .ok (.aload_n 0, 1) := by decide +kernel
theorem dX11_wrong_2 : decode cX11_wrong 2 = .ok (.getfield 61, 3) := by decide +kernel
theorem dX11_wrong_5 : decode cX11_wrong 5 = .ok (.iconst 1, 1) := by decide +kernel
theorem dX11_wrong_6 : decode cX11_wrong 6 = .ok (.if_icmp .ne 7, 3) := by decide +kernel
theorem dX11_wrong_9 : decode cX11_wrong 9 = .ok (.iconst 1, 1) := by decide +kernel
theorem dX11_wrong_10 : decode cX11_wrong 10 = .ok (.goto 4, 3) := by decide +kernel
theorem dX11_wrong_13 : decode cX11_wrong 13 = .ok (.iconst 2, 1) := by decide +kernel
theorem dX11_wrong_14 : decode cX11_wrong 14 = .ok (.aload_n 0, 1) := by decide +kernel
theorem dX11_wrong_15 : decode cX11_wrong 15 = .ok (.getfield 54, 3) := by decide +kernel
theorem dX11_wrong_18 : decode cX11_wrong 18 = .ok (.invokevirtual 81, 3) := by decide +kernel
theorem dX11_wrong_21 : decode cX11_wrong 21 = .ok (.return_, 1) := by decide +kernel
theorem dX11_must_0 : decode cX11_must 0 = .ok (.aload_n 0, 1) := by decide +kernel
theorem dX11_must_1 : decode cX11_must 1 = .ok (.iload_n 1, 1) := by decide +kernel
theorem dX11_must_2 : decode cX11_must 2 = .ok (.invokevirtual 85, 3) := by decide +kernel
theorem dX11_must_5 : decode cX11_must 5 = .ok (.ifCond .eq 10, 3) := by decide +kernel
theorem dX11_must_8 : decode cX11_must 8 = .ok (.aload_n 0, 1) := by decide +kernel
theorem dX11_must_9 : decode cX11_must 9 = .ok (.invokevirtual 88, 3) := by decide +kernel
theorem dX11_must_12 : decode cX11_must 12 = .ok (.goto 7, 3) := by decide +kernel
theorem dX11_must_15 : decode cX11_must 15 = .ok (.aload_n 0, 1) := by decide +kernel
theorem dX11_must_16 : decode cX11_must 16 = .ok (.invokevirtual 92, 3) := by decide +kernel
theorem dX11_must_19 : decode cX11_must 19 = .ok (.return_, 1) := by decide +kernel
theorem dX11_numberOf_0 : decode cX11_numberOf 0 = .ok (.aload_n 0, 1) := by decide +kernel
theorem dX11_numberOf_1 : decode cX11_numberOf 1 = .ok (.getfield 61, 3) := by decide +kernel
theorem dX11_numberOf_4 : decode cX11_numberOf 4 = .ok (.iconst 4, 1) := by decide +kernel
theorem dX11_numberOf_5 : decode cX11_numberOf 5 = .ok (.if_icmp .eq 7, 3) := by decide +kernel
theorem dX11_numberOf_8 : decode cX11_numberOf 8 = .ok (.aload_n 0, 1) := by decide +kernel
theorem dX11_numberOf_9 : decode cX11_numberOf 9 = .ok (.invokevirtual 92, 3) := by decide +kernel
theorem dX11_numberOf_12 : decode cX11_numberOf 12 = .ok (.aload_n 0, 1) := by decide +kernel
theorem dX11_numberOf_13 : decode cX11_numberOf 13 = .ok (.invokevirtual 95, 3) := by decide +kernel
theorem dX11_numberOf_16 : decode cX11_numberOf 16 = .ok (.ifCond .eq 28, 3) := by decide +kernel
theorem dX11_numberOf_19 : decode cX11_numberOf 19 = .ok (.aload_n 0, 1) := by decide +kernel
theorem dX11_numberOf_20 : decode cX11_numberOf 20 = .ok (.getfield 78, 3) := by decide +kernel
theorem dX11_numberOf_23 : decode cX11_numberOf 23 = .ok (.iload_n 1, 1) := by decide +kernel
theorem dX11_numberOf_24 : decode cX11_numberOf 24 = .ok (.if_icmp .lt 11, 3) := by decide +kernel
theorem dX11_numberOf_27 : decode cX11_numberOf 27 = .ok (.aload_n 0, 1) := by decide +kernel
theorem dX11_numberOf_28 : decode cX11_numberOf 28 = .ok (.getfield 78, 3) := by decide +kernel
theorem dX11_numberOf_31 : decode cX11_numberOf 31 = .ok (.iload_n 2, 1) := by decide +kernel
theorem dX11_numberOf_32 : decode cX11_numberOf 32 = .ok (.if_icmp .le 12, 3) := by decide +kernel
theorem dX11_numberOf_35 : decode cX11_numberOf 35 = .ok (.aload_n 0, 1) := by decide +kernel
theorem dX11_numberOf_36 : decode cX11_numberOf 36 = .ok (.iconst 5, 1) := by decide +kernel
theorem dX11_numberOf_37 : decode cX11_numberOf 37 = .ok (.aload_n 0, 1) := by decide +kernel
theorem dX11_numberOf_38 : decode cX11_numberOf 38 = .ok (.getfield 54, 3) := by decide +kernel
theorem dX11_numberOf_41 : decode cX11_numberOf 41 = .ok (.invokevirtual 81, 3) := by decide +kernel
theorem dX11_numberOf_44 : decode cX11_numberOf 44 = .ok (.aload_n 0, 1) := by decide +kernel
theorem dX11_numberOf_45 : decode cX11_numberOf 45 = .ok (.getfield 78, 3) := by decide +kernel
theorem dX11_numberOf_48 : decode cX11_numberOf 48 = .ok (.istore_n 3, 1) := by decide +kernel
theorem dX11_numberOf_49 : decode cX11_numberOf 49 = .ok (.aload_n 0, 1) := by decide +kernel
theorem dX11_numberOf_50 : decode cX11_numberOf 50 = .ok (.invokevirtual 95, 3) := by decide +kernel
theorem dX11_numberOf_53 : decode cX11_numberOf 53 = .ok (.ifCond .eq 7, 3) := by decide +kernel
theorem dX11_numberOf_56 : decode cX11_numberOf 56 = .ok (.aload_n 0, 1) := by decide +kernel
theorem dX11_numberOf_57 : decode cX11_numberOf 57 = .ok (.invokevirtual 88, 3) := by decide +kernel
theorem dX11_numberOf_60 : decode cX11_numberOf 60 = .ok (.iload_n 3, 1) := by decide +kernel
theorem dX11_numberOf_61 : decode cX11_numberOf 61 = .ok (.ireturn, 1) := by decide +kernel
theorem dX11_init_0 : decode cX11_init 0 = .ok (.aload_n 0, 1) := by decide +kernel
theorem dX11_init_1 : decode cX11_init 1 = .ok (.invokespecial 99, 3) := by decide +kernel
theorem dX11_init_4 : decode cX11_init 4 = .ok (.aload_n 0, 1) := by decide +kernel
theorem dX11_init_5 : decode cX11_init 5 = .ok (.sipush 1420, 3) := by decide +kernel
theorem dX11_init_8 : decode cX11_init 8 = .ok (.newarray .byte, 2) := by decide +kernel
theorem dX11_init_10 : decode cX11_init 10 = .ok (.putfield 104, 3) := by decide +kernel
theorem dX11_init_13 : decode cX11_init 13 = .ok (.aload_n 0, 1) := by decide +kernel
theorem dX11_init_14 : decode cX11_init 14 = .ok (.sipush 1400, 3) := by decide +kernel
theorem dX11_init_17 : decode cX11_init 17 = .ok (.newarray .byte, 2) := by decide +kernel
theorem dX11_init_19 : decode cX11_init 19 = .ok (.putfield 7, 3) := by decide +kernel
theorem dX11_init_22 : decode cX11_init 22 = .ok (.aload_n 0, 1) := by decide +kernel
theorem dX11_init_23 : decode cX11_init 23 = .ok (.iconst (-1), 1) := by decide +kernel
theorem dX11_init_24 : decode cX11_init 24 = .ok (.putfield 14, 3) := by decide +kernel
theorem dX11_init_27 : decode cX11_init 27 = .ok (.aload_n 0, 1) := by decide +kernel
theorem dX11_init_28 : decode cX11_init 28 = .ok (.iconst 4, 1) := by decide +kernel
theorem dX11_init_29 : decode cX11_init 29 = .ok (.newarray .int, 2) := by decide +kernel
theorem dX11_init_31 : decode cX11_init 31 = .ok (.putfield 107, 3) := by decide +kernel
theorem dX11_init_34 : decode cX11_init 34 = .ok (.aload_n 0, 1) := by decide +kernel
theorem dX11_init_35 : decode cX11_init 35 = .ok (.iconst 4, 1) := by decide +kernel
theorem dX11_init_36 : decode cX11_init 36 = .ok (.putfield 111, 3) := by decide +kernel
theorem dX11_init_39 : decode cX11_init 39 = .ok (.aload_n 0, 1) := by decide +kernel
theorem dX11_init_40 : decode cX11_init 40 = .ok (.iconst 4, 1) := by decide +kernel
theorem dX11_init_41 : decode cX11_init 41 = .ok (.newarray .boolean, 2) := by decide +kernel
theorem dX11_init_43 : decode cX11_init 43 = .ok (.putfield 114, 3) := by decide +kernel
theorem dX11_init_46 : decode cX11_init 46 = .ok (.aload_n 0, 1) := by decide +kernel
theorem dX11_init_47 : decode cX11_init 47 = .ok (.bipush 40, 2) := by decide +kernel
theorem dX11_init_49 : decode cX11_init 49 = .ok (.newarray .boolean, 2) := by decide +kernel
theorem dX11_init_51 : decode cX11_init 51 = .ok (.putfield 118, 3) := by decide +kernel
theorem dX11_init_54 : decode cX11_init 54 = .ok (.aload_n 0, 1) := by decide +kernel
theorem dX11_init_55 : decode cX11_init 55 = .ok (.bipush 40, 2) := by decide +kernel
theorem dX11_init_57 : decode cX11_init 57 = .ok (.newarray .int, 2) := by decide +kernel
theorem dX11_init_59 : decode cX11_init 59 = .ok (.putfield 121, 3) := by decide +kernel
theorem dX11_init_62 : decode cX11_init 62 = .ok (.aload_n 0, 1) := by decide +kernel
theorem dX11_init_63 : decode cX11_init 63 = .ok (.sipush 240, 3) := by decide +kernel
theorem dX11_init_66 : decode cX11_init 66 = .ok (.newarray .int, 2) := by decide +kernel
theorem dX11_init_68 : decode cX11_init 68 = .ok (.putfield 124, 3) := by decide +kernel
theorem dX11_init_71 : decode cX11_init 71 = .ok (.aload_n 0, 1) := by decide +kernel
theorem dX11_init_72 : decode cX11_init 72 = .ok (.bipush 40, 2) := by decide +kernel
theorem dX11_init_74 : decode cX11_init 74 = .ok (.newarray .int, 2) := by decide +kernel
theorem dX11_init_76 : decode cX11_init 76 = .ok (.putfield 127, 3) := by decide +kernel
theorem dX11_init_79 : decode cX11_init 79 = .ok (.aload_n 0, 1) := by decide +kernel
theorem dX11_init_80 : decode cX11_init 80 = .ok (.sipush 240, 3) := by decide +kernel
theorem dX11_init_83 : decode cX11_init 83 = .ok (.newarray .int, 2) := by decide +kernel
theorem dX11_init_85 : decode cX11_init 85 = .ok (.putfield 130, 3) := by decide +kernel
theorem dX11_init_88 : decode cX11_init 88 = .ok (.aload_n 0, 1) := by decide +kernel
theorem dX11_init_89 : decode cX11_init 89 = .ok (.bipush 40, 2) := by decide +kernel
theorem dX11_init_91 : decode cX11_init 91 = .ok (.newarray .int, 2) := by decide +kernel
theorem dX11_init_93 : decode cX11_init 93 = .ok (.putfield 133, 3) := by decide +kernel
theorem dX11_init_96 : decode cX11_init 96 = .ok (.aload_n 0, 1) := by decide +kernel
theorem dX11_init_97 : decode cX11_init 97 = .ok (.bipush 40, 2) := by decide +kernel
theorem dX11_init_99 : decode cX11_init 99 = .ok (.newarray .int, 2) := by decide +kernel
theorem dX11_init_101 : decode cX11_init 101 = .ok (.putfield 136, 3) := by decide +kernel
theorem dX11_init_104 : decode cX11_init 104 = .ok (.aload_n 0, 1) := by decide +kernel
theorem dX11_init_105 : decode cX11_init 105 = .ok (.sipush 320, 3) := by decide +kernel
theorem dX11_init_108 : decode cX11_init 108 = .ok (.newarray .int, 2) := by decide +kernel
theorem dX11_init_110 : decode cX11_init 110 = .ok (.putfield 139, 3) := by decide +kernel
theorem dX11_init_113 : decode cX11_init 113 = .ok (.aload_n 0, 1) := by decide +kernel
theorem dX11_init_114 : decode cX11_init 114 = .ok (.sipush 320, 3) := by decide +kernel
theorem dX11_init_117 : decode cX11_init 117 = .ok (.newarray .int, 2) := by decide +kernel
theorem dX11_init_119 : decode cX11_init 119 = .ok (.putfield 142, 3) := by decide +kernel
theorem dX11_init_122 : decode cX11_init 122 = .ok (.aload_n 0, 1) := by decide +kernel
theorem dX11_init_123 : decode cX11_init 123 = .ok (.bipush 40, 2) := by decide +kernel
theorem dX11_init_125 : decode cX11_init 125 = .ok (.newarray .int, 2) := by decide +kernel
theorem dX11_init_127 : decode cX11_init 127 = .ok (.putfield 145, 3) := by decide +kernel
theorem dX11_init_130 : decode cX11_init 130 = .ok (.aload_n 0, 1) := by decide +kernel
theorem dX11_init_131 : decode cX11_init 131 = .ok (.bipush 40, 2) := by decide +kernel
theorem dX11_init_133 : decode cX11_init 133 = .ok (.newarray .int, 2) := by decide +kernel
theorem dX11_init_135 : decode cX11_init 135 = .ok (.putfield 148, 3) := by decide +kernel
theorem dX11_init_138 : decode cX11_init 138 = .ok (.aload_n 0, 1) := by decide +kernel
theorem dX11_init_139 : decode cX11_init 139 = .ok (.bipush 40, 2) := by decide +kernel
theorem dX11_init_141 : decode cX11_init 141 = .ok (.newarray .int, 2) := by decide +kernel
theorem dX11_init_143 : decode cX11_init 143 = .ok (.putfield 151, 3) := by decide +kernel
theorem dX11_init_146 : decode cX11_init 146 = .ok (.aload_n 0, 1) := by decide +kernel
theorem dX11_init_147 : decode cX11_init 147 = .ok (.bipush 40, 2) := by decide +kernel
theorem dX11_init_149 : decode cX11_init 149 = .ok (.newarray .int, 2) := by decide +kernel
theorem dX11_init_151 : decode cX11_init 151 = .ok (.putfield 154, 3) := by decide +kernel
theorem dX11_init_154 : decode cX11_init 154 = .ok (.aload_n 0, 1) := by decide +kernel
theorem dX11_init_155 : decode cX11_init 155 = .ok (.sipush 7500, 3) := by decide +kernel
theorem dX11_init_158 : decode cX11_init 158 = .ok (.newarray .int, 2) := by decide +kernel
theorem dX11_init_160 : decode cX11_init 160 = .ok (.putfield 157, 3) := by decide +kernel
theorem dX11_init_163 : decode cX11_init 163 = .ok (.aload_n 0, 1) := by decide +kernel
theorem dX11_init_164 : decode cX11_init 164 = .ok (.sipush 7500, 3) := by decide +kernel
theorem dX11_init_167 : decode cX11_init 167 = .ok (.newarray .int, 2) := by decide +kernel
theorem dX11_init_169 : decode cX11_init 169 = .ok (.putfield 160, 3) := by decide +kernel
theorem dX11_init_172 : decode cX11_init 172 = .ok (.aload_n 0, 1) := by decide +kernel
theorem dX11_init_173 : decode cX11_init 173 = .ok (.iconst 5, 1) := by decide +kernel
theorem dX11_init_174 : decode cX11_init 174 = .ok (.newarray .int, 2) := by decide +kernel
theorem dX11_init_176 : decode cX11_init 176 = .ok (.putfield 163, 3) := by decide +kernel
theorem dX11_init_179 : decode cX11_init 179 = .ok (.aload_n 0, 1) := by decide +kernel
theorem dX11_init_180 : decode cX11_init 180 = .ok (.sipush 240, 3) := by decide +kernel
theorem dX11_init_183 : decode cX11_init 183 = .ok (.newarray .long, 2) := by decide +kernel
theorem dX11_init_185 : decode cX11_init 185 = .ok (.putfield 166, 3) := by decide +kernel
theorem dX11_init_188 : decode cX11_init 188 = .ok (.aload_n 0, 1) := by decide +kernel
theorem dX11_init_189 : decode cX11_init 189 = .ok (.sipush 2880, 3) := by decide +kernel
theorem dX11_init_192 : decode cX11_init 192 = .ok (.newarray .long, 2) := by decide +kernel
theorem dX11_init_194 : decode cX11_init 194 = .ok (.putfield 170, 3) := by decide +kernel
theorem dX11_init_197 : decode cX11_init 197 = .ok (.aload_n 0, 1) := by decide +kernel
theorem dX11_init_198 : decode cX11_init 198 = .ok (.sipush 240, 3) := by decide +kernel
theorem dX11_init_201 : decode cX11_init 201 = .ok (.newarray .long, 2) := by decide +kernel
theorem dX11_init_203 : decode cX11_init 203 = .ok (.putfield 173, 3) := by decide +kernel
theorem dX11_init_206 : decode cX11_init 206 = .ok (.aload_n 0, 1) := by decide +kernel
theorem dX11_init_207 : decode cX11_init 207 = .ok (.bipush 80, 2) := by decide +kernel
theorem dX11_init_209 : decode cX11_init 209 = .ok (.newarray .int, 2) := by decide +kernel
theorem dX11_init_211 : decode cX11_init 211 = .ok (.putfield 176, 3) := by decide +kernel
theorem dX11_init_214 : decode cX11_init 214 = .ok (.aload_n 0, 1) := by decide +kernel
theorem dX11_init_215 : decode cX11_init 215 = .ok (.bipush 80, 2) := by decide +kernel
theorem dX11_init_217 : decode cX11_init 217 = .ok (.newarray .int, 2) := by decide +kernel
theorem dX11_init_219 : decode cX11_init 219 = .ok (.putfield 179, 3) := by decide +kernel
theorem dX11_init_222 : decode cX11_init 222 = .ok (.aload_n 0, 1) := by decide +kernel
theorem dX11_init_223 : decode cX11_init 223 = .ok (.bipush 40, 2) := by decide +kernel
theorem dX11_init_225 : decode cX11_init 225 = .ok (.newarray .int, 2) := by decide +kernel
theorem dX11_init_227 : decode cX11_init 227 = .ok (.putfield 182, 3) := by decide +kernel
theorem dX11_init_230 : decode cX11_init 230 = .ok (.aload_n 0, 1) := by decide +kernel
theorem dX11_init_231 : decode cX11_init 231 = .ok (.bipush 40, 2) := by decide +kernel
theorem dX11_init_233 : decode cX11_init 233 = .ok (.newarray .int, 2) := by decide +kernel
theorem dX11_init_235 : decode cX11_init 235 = .ok (.putfield 185, 3) := by decide +kernel
theorem dX11_init_238 : decode cX11_init 238 = .ok (.aload_n 0, 1) := by decide +kernel
theorem dX11_init_239 : decode cX11_init 239 = .ok (.bipush 40, 2) := by decide +kernel
theorem dX11_init_241 : decode cX11_init 241 = .ok (.newarray .int, 2) := by decide +kernel
theorem dX11_init_243 : decode cX11_init 243 = .ok (.putfield 188, 3) := by decide +kernel
theorem dX11_init_246 : decode cX11_init 246 = .ok (.aload_n 0, 1) := by decide +kernel
theorem dX11_init_247 : decode cX11_init 247 = .ok (.bipush 40, 2) := by decide +kernel
theorem dX11_init_249 : decode cX11_init 249 = .ok (.newarray .int, 2) := by decide +kernel
theorem dX11_init_251 : decode cX11_init 251 = .ok (.putfield 191, 3) := by decide +kernel
theorem dX11_init_254 : decode cX11_init 254 = .ok (.aload_n 0, 1) := by decide +kernel
theorem dX11_init_255 : decode cX11_init 255 = .ok (.bipush 40, 2) := by decide +kernel
theorem dX11_init_257 : decode cX11_init 257 = .ok (.newarray .int, 2) := by decide +kernel
theorem dX11_init_259 : decode cX11_init 259 = .ok (.putfield 194, 3) := by decide +kernel
theorem dX11_init_262 : decode cX11_init 262 = .ok (.aload_n 0, 1) := by decide +kernel
theorem dX11_init_263 : decode cX11_init 263 = .ok (.bipush 40, 2) := by decide +kernel
theorem dX11_init_265 : decode cX11_init 265 = .ok (.newarray .int, 2) := by decide +kernel
theorem dX11_init_267 : decode cX11_init 267 = .ok (.putfield 197, 3) := by decide +kernel
theorem dX11_init_270 : decode cX11_init 270 = .ok (.aload_n 0, 1) := by decide +kernel
theorem dX11_init_271 : decode cX11_init 271 = .ok (.bipush 40, 2) := by decide +kernel
theorem dX11_init_273 : decode cX11_init 273 = .ok (.newarray .int, 2) := by decide +kernel
theorem dX11_init_275 : decode cX11_init 275 = .ok (.putfield 200, 3) := by decide +kernel
theorem dX11_init_278 : decode cX11_init 278 = .ok (.aload_n 0, 1) := by decide +kernel
theorem dX11_init_279 : decode cX11_init 279 = .ok (.bipush 40, 2) := by decide +kernel
theorem dX11_init_281 : decode cX11_init 281 = .ok (.newarray .int, 2) := by decide +kernel
theorem dX11_init_283 : decode cX11_init 283 = .ok (.putfield 203, 3) := by decide +kernel
theorem dX11_init_286 : decode cX11_init 286 = .ok (.aload_n 0, 1) := by decide +kernel
theorem dX11_init_287 : decode cX11_init 287 = .ok (.sipush 160, 3) := by decide +kernel
theorem dX11_init_290 : decode cX11_init 290 = .ok (.newarray .long, 2) := by decide +kernel
theorem dX11_init_292 : decode cX11_init 292 = .ok (.putfield 206, 3) := by decide +kernel
theorem dX11_init_295 : decode cX11_init 295 = .ok (.aload_n 0, 1) := by decide +kernel
theorem dX11_init_296 : decode cX11_init 296 = .ok (.sipush 200, 3) := by decide +kernel
theorem dX11_init_299 : decode cX11_init 299 = .ok (.newarray .int, 2) := by decide +kernel
theorem dX11_init_301 : decode cX11_init 301 = .ok (.putfield 209, 3) := by decide +kernel
theorem dX11_init_304 : decode cX11_init 304 = .ok (.aload_n 0, 1) := by decide +kernel
theorem dX11_init_305 : decode cX11_init 305 = .ok (.bipush 6, 2) := by decide +kernel
theorem dX11_init_307 : decode cX11_init 307 = .ok (.newarray .int, 2) := by decide +kernel
theorem dX11_init_309 : decode cX11_init 309 = .ok (.putfield 212, 3) := by decide +kernel
theorem dX11_init_312 : decode cX11_init 312 = .ok (.aload_n 0, 1) := by decide +kernel
theorem dX11_init_313 : decode cX11_init 313 = .ok (.bipush 64, 2) := by decide +kernel
theorem dX11_init_315 : decode cX11_init 315 = .ok (.newarray .int, 2) := by decide +kernel
theorem dX11_init_317 : decode cX11_init 317 = .ok (.putfield 215, 3) := by decide +kernel
theorem dX11_init_320 : decode cX11_init 320 = .ok (.aload_n 0, 1) := by decide +kernel
theorem dX11_init_321 : decode cX11_init 321 = .ok (.iconst 5, 1) := by decide +kernel
theorem dX11_init_322 : decode cX11_init 322 = .ok (.newarray .int, 2) := by decide +kernel
theorem dX11_init_324 : decode cX11_init 324 = .ok (.putfield 218, 3) := by decide +kernel
theorem dX11_init_327 : decode cX11_init 327 = .ok (.aload_n 0, 1) := by decide +kernel
theorem dX11_init_328 : decode cX11_init 328 = .ok (.iconst 5, 1) := by decide +kernel
theorem dX11_init_329 : decode cX11_init 329 = .ok (.newarray .int, 2) := by decide +kernel
theorem dX11_init_331 : decode cX11_init 331 = .ok (.putfield 221, 3) := by decide +kernel
theorem dX11_init_334 : decode cX11_init 334 = .ok (.aload_n 0, 1) := by decide +kernel
theorem dX11_init_335 : decode cX11_init 335 = .ok (.bipush 9, 2) := by decide +kernel
theorem dX11_init_337 : decode cX11_init 337 = .ok (.newarray .int, 2) := by decide +kernel
theorem dX11_init_339 : decode cX11_init 339 = .ok (.putfield 224, 3) := by decide +kernel
theorem dX11_init_342 : decode cX11_init 342 = .ok (.aload_n 0, 1) := by decide +kernel
theorem dX11_init_343 : decode cX11_init 343 = .ok (.bipush 9, 2) := by decide +kernel
theorem dX11_init_345 : decode cX11_init 345 = .ok (.newarray .int, 2) := by decide +kernel
theorem dX11_init_347 : decode cX11_init 347 = .ok (.putfield 227, 3) := by decide +kernel
theorem dX11_init_350 : decode cX11_init 350 = .ok (.aload_n 0, 1) := by decide +kernel
theorem dX11_init_351 : decode cX11_init 351 = .ok (.sipush 2560, 3) := by decide +kernel
theorem dX11_init_354 : decode cX11_init 354 = .ok (.newarray .int, 2) := by decide +kernel
theorem dX11_init_356 : decode cX11_init 356 = .ok (.putfield 230, 3) := by decide +kernel
theorem dX11_init_359 : decode cX11_init 359 = .ok (.aload_n 0, 1) := by decide +kernel
theorem dX11_init_360 : decode cX11_init 360 = .ok (.sipush 3072, 3) := by decide +kernel
theorem dX11_init_363 : decode cX11_init 363 = .ok (.newarray .int, 2) := by decide +kernel
theorem dX11_init_365 : decode cX11_init 365 = .ok (.putfield 233, 3) := by decide +kernel
theorem dX11_init_368 : decode cX11_init 368 = .ok (.aload_n 0, 1) := by decide +kernel
theorem dX11_init_369 : decode cX11_init 369 = .ok (.bipush 9, 2) := by decide +kernel
theorem dX11_init_371 : decode cX11_init 371 = .ok (.newarray .int, 2) := by decide +kernel
theorem dX11_init_373 : decode cX11_init 373 = .ok (.putfield 236, 3) := by decide +kernel
theorem dX11_init_376 : decode cX11_init 376 = .ok (.aload_n 0, 1) := by decide +kernel
theorem dX11_init_377 : decode cX11_init 377 = .ok (.bipush 9, 2) := by decide +kernel
theorem dX11_init_379 : decode cX11_init 379 = .ok (.newarray .int, 2) := by decide +kernel
theorem dX11_init_381 : decode cX11_init 381 = .ok (.putfield 239, 3) := by decide +kernel
theorem dX11_init_384 : decode cX11_init 384 = .ok (.aload_n 0, 1) := by decide +kernel
theorem dX11_init_385 : decode cX11_init 385 = .ok (.sipush 200, 3) := by decide +kernel
theorem dX11_init_388 : decode cX11_init 388 = .ok (.newarray .int, 2) := by decide +kernel
theorem dX11_init_390 : decode cX11_init 390 = .ok (.putfield 242, 3) := by decide +kernel
theorem dX11_init_393 : decode cX11_init 393 = .ok (.aload_n 0, 1) := by decide +kernel
theorem dX11_init_394 : decode cX11_init 394 = .ok (.sipush 200, 3) := by decide +kernel
theorem dX11_init_397 : decode cX11_init 397 = .ok (.newarray .int, 2) := by decide +kernel
theorem dX11_init_399 : decode cX11_init 399 = .ok (.putfield 245, 3) := by decide +kernel
theorem dX11_init_402 : decode cX11_init 402 = .ok (.aload_n 0, 1) := by decide +kernel
theorem dX11_init_403 : decode cX11_init 403 = .ok (.sipush 200, 3) := by decide +kernel
theorem dX11_init_406 : decode cX11_init 406 = .ok (.newarray .int, 2) := by decide +kernel
theorem dX11_init_408 : decode cX11_init 408 = .ok (.putfield 248, 3) := by decide +kernel
theorem dX11_init_411 : decode cX11_init 411 = .ok (.aload_n 0, 1) := by decide +kernel
theorem dX11_init_412 : decode cX11_init 412 = .ok (.sipush 200, 3) := by decide +kernel
theorem dX11_init_415 : decode cX11_init 415 = .ok (.newarray .int, 2) := by decide +kernel
theorem dX11_init_417 : decode cX11_init 417 = .ok (.putfield 251, 3) := by decide +kernel
theorem dX11_init_420 : decode cX11_init 420 = .ok (.aload_n 0, 1) := by decide +kernel
theorem dX11_init_421 : decode cX11_init 421 = .ok (.sipush 200, 3) := by decide +kernel
theorem dX11_init_424 : decode cX11_init 424 = .ok (.newarray .int, 2) := by decide +kernel
theorem dX11_init_426 : decode cX11_init 426 = .ok (.putfield 254, 3) := by decide +kernel
theorem dX11_init_429 : decode cX11_init 429 = .ok (.aload_n 0, 1) := by decide +kernel
theorem dX11_init_430 : decode cX11_init 430 = .ok (.sipush 200, 3) := by decide +kernel
theorem dX11_init_433 : decode cX11_init 433 = .ok (.newarray .int, 2) := by decide +kernel
theorem dX11_init_435 : decode cX11_init 435 = .ok (.putfield 257, 3) := by decide +kernel
theorem dX11_init_438 : decode cX11_init 438 = .ok (.aload_n 0, 1) := by decide +kernel
theorem dX11_init_439 : decode cX11_init 439 = .ok (.sipush 1000, 3) := by decide +kernel
theorem dX11_init_442 : decode cX11_init 442 = .ok (.newarray .int, 2) := by decide +kernel
theorem dX11_init_444 : decode cX11_init 444 = .ok (.putfield 260, 3) := by decide +kernel
theorem dX11_init_447 : decode cX11_init 447 = .ok (.aload_n 0, 1) := by decide +kernel
theorem dX11_init_448 : decode cX11_init 448 = .ok (.bipush 61, 2) := by decide +kernel
theorem dX11_init_450 : decode cX11_init 450 = .ok (.newarray .int, 2) := by decide +kernel
theorem dX11_init_452 : decode cX11_init 452 = .ok (.putfield 263, 3) := by decide +kernel
theorem dX11_init_455 : decode cX11_init 455 = .ok (.aload_n 0, 1) := by decide +kernel
theorem dX11_init_456 : decode cX11_init 456 = .ok (.bipush 61, 2) := by decide +kernel
theorem dX11_init_458 : decode cX11_init 458 = .ok (.newarray .int, 2) := by decide +kernel
theorem dX11_init_460 : decode cX11_init 460 = .ok (.putfield 266, 3) := by decide +kernel
theorem dX11_init_463 : decode cX11_init 463 = .ok (.aload_n 0, 1) := by decide +kernel
theorem dX11_init_464 : decode cX11_init 464 = .ok (.bipush 61, 2) := by decide +kernel
theorem dX11_init_466 : decode cX11_init 466 = .ok (.newarray .int, 2) := by decide +kernel
theorem dX11_init_468 : decode cX11_init 468 = .ok (.putfield 269, 3) := by decide +kernel
theorem dX11_init_471 : decode cX11_init 471 = .ok (.iconst 0, 1) := by decide +kernel
theorem dX11_init_472 : decode cX11_init 472 = .ok (.istore_n 1, 1) := by decide +kernel
theorem dX11_init_473 : decode cX11_init 473 = .ok (.iload_n 1, 1) := by decide +kernel
theorem dX11_init_474 : decode cX11_init 474 = .ok (.iconst 4, 1) := by decide +kernel
theorem dX11_init_475 : decode cX11_init 475 = .ok (.if_icmp .ge 16, 3) := by decide +kernel
theorem dX11_init_478 : decode cX11_init 478 = .ok (.aload_n 0, 1) := by decide +kernel
theorem dX11_init_479 : decode cX11_init 479 = .ok (.getfield 107, 3) := by decide +kernel
theorem dX11_init_482 : decode cX11_init 482 = .ok (.iload_n 1, 1) := by decide +kernel
theorem dX11_init_483 : decode cX11_init 483 = .ok (.iload_n 1, 1) := by decide +kernel
theorem dX11_init_484 : decode cX11_init 484 = .ok (.iastore, 1) := by decide +kernel
theorem dX11_init_485 : decode cX11_init 485 = .ok (.iinc 1 1, 3) := by decide +kernel
theorem dX11_init_488 : decode cX11_init 488 = .ok (.goto (-15), 3) := by decide +kernel
theorem dX11_init_491 : decode cX11_init 491 = .ok (.return_, 1) := by decide +kernel
theorem dX11_listOf_0 : decode cX11_listOf 0 = .ok (.iconst 0, 1) := by decide +kernel
theorem dX11_listOf_1 : decode cX11_listOf 1 = .ok (.istore 4, 2) := by decide +kernel
theorem dX11_listOf_3 : decode cX11_listOf 3 = .ok (.iload 4, 2) := by decide +kernel
theorem dX11_listOf_5 : decode cX11_listOf 5 = .ok (.aload_n 0, 1) := by decide +kernel
theorem dX11_listOf_6 : decode cX11_listOf 6 = .ok (.getfield 121, 3) := by decide +kernel
theorem dX11_listOf_9 : decode cX11_listOf 9 = .ok (.iload_n 1, 1) := by decide +kernel
theorem dX11_listOf_10 : decode cX11_listOf 10 = .ok (.iaload, 1) := by decide +kernel
theorem dX11_listOf_11 : decode cX11_listOf 11 = .ok (.if_icmp .ge 29, 3) := by decide +kernel
theorem dX11_listOf_14 : decode cX11_listOf 14 = .ok (.aload_n 0, 1) := by decide +kernel
theorem dX11_listOf_15 : decode cX11_listOf 15 = .ok (.getfield 166, 3) := by decide +kernel
theorem dX11_listOf_18 : decode cX11_listOf 18 = .ok (.bipush 6, 2) := by decide +kernel
theorem dX11_listOf_20 : decode cX11_listOf 20 = .ok (.iload_n 1, 1) := by decide +kernel
theorem dX11_listOf_21 : decode cX11_listOf 21 = .ok (.imul, 1) := by decide +kernel
theorem dX11_listOf_22 : decode cX11_listOf 22 = .ok (.iload 4, 2) := by decide +kernel
theorem dX11_listOf_24 : decode cX11_listOf 24 = .ok (.iadd, 1) := by decide +kernel
theorem dX11_listOf_25 : decode cX11_listOf 25 = .ok (.laload, 1) := by decide +kernel
theorem dX11_listOf_26 : decode cX11_listOf 26 = .ok (.lload_n 2, 1) := by decide +kernel
theorem dX11_listOf_27 : decode cX11_listOf 27 = .ok (.lcmp, 1) := by decide +kernel
theorem dX11_listOf_28 : decode cX11_listOf 28 = .ok (.ifCond .ne 6, 3) := by decide +kernel
theorem dX11_listOf_31 : decode cX11_listOf 31 = .ok (.iload 4, 2) := by decide +kernel
theorem dX11_listOf_33 : decode cX11_listOf 33 = .ok (.ireturn, 1) := by decide +kernel
theorem dX11_listOf_34 : decode cX11_listOf 34 = .ok (.iinc 4 1, 3) := by decide +kernel
theorem dX11_listOf_37 : decode cX11_listOf 37 = .ok (.goto (-34), 3) := by decide +kernel
theorem dX11_listOf_40 : decode cX11_listOf 40 = .ok (.iconst (-1), 1) := by decide +kernel
theorem dX11_listOf_41 : decode cX11_listOf 41 = .ok (.ireturn, 1) := by decide +kernel
theorem dX11_partOf_0 : decode cX11_partOf 0 = .ok (.iconst 0, 1) := by decide +kernel
theorem dX11_partOf_1 : decode cX11_partOf 1 = .ok (.istore 4, 2) := by decide +kernel
theorem dX11_partOf_3 : decode cX11_partOf 3 = .ok (.iload 4, 2) := by decide +kernel
theorem dX11_partOf_5 : decode cX11_partOf 5 = .ok (.aload_n 0, 1) := by decide +kernel
theorem dX11_partOf_6 : decode cX11_partOf 6 = .ok (.getfield 127, 3) := by decide +kernel
theorem dX11_partOf_9 : decode cX11_partOf 9 = .ok (.iload_n 1, 1) := by decide +kernel
theorem dX11_partOf_10 : decode cX11_partOf 10 = .ok (.iaload, 1) := by decide +kernel
theorem dX11_partOf_11 : decode cX11_partOf 11 = .ok (.if_icmp .ge 29, 3) := by decide +kernel
theorem dX11_partOf_14 : decode cX11_partOf 14 = .ok (.aload_n 0, 1) := by decide +kernel
theorem dX11_partOf_15 : decode cX11_partOf 15 = .ok (.getfield 173, 3) := by decide +kernel
theorem dX11_partOf_18 : decode cX11_partOf 18 = .ok (.bipush 6, 2) := by decide +kernel
theorem dX11_partOf_20 : decode cX11_partOf 20 = .ok (.iload_n 1, 1) := by decide +kernel
theorem dX11_partOf_21 : decode cX11_partOf 21 = .ok (.imul, 1) := by decide +kernel
theorem dX11_partOf_22 : decode cX11_partOf 22 = .ok (.iload 4, 2) := by decide +kernel
theorem dX11_partOf_24 : decode cX11_partOf 24 = .ok (.iadd, 1) := by decide +kernel
theorem dX11_partOf_25 : decode cX11_partOf 25 = .ok (.laload, 1) := by decide +kernel
theorem dX11_partOf_26 : decode cX11_partOf 26 = .ok (.lload_n 2, 1) := by decide +kernel
theorem dX11_partOf_27 : decode cX11_partOf 27 = .ok (.lcmp, 1) := by decide +kernel
theorem dX11_partOf_28 : decode cX11_partOf 28 = .ok (.ifCond .ne 6, 3) := by decide +kernel
theorem dX11_partOf_31 : decode cX11_partOf 31 = .ok (.iload 4, 2) := by decide +kernel
theorem dX11_partOf_33 : decode cX11_partOf 33 = .ok (.ireturn, 1) := by decide +kernel
theorem dX11_partOf_34 : decode cX11_partOf 34 = .ok (.iinc 4 1, 3) := by decide +kernel
theorem dX11_partOf_37 : decode cX11_partOf 37 = .ok (.goto (-34), 3) := by decide +kernel
theorem dX11_partOf_40 : decode cX11_partOf 40 = .ok (.iconst (-1), 1) := by decide +kernel
theorem dX11_partOf_41 : decode cX11_partOf 41 = .ok (.ireturn, 1) := by decide +kernel
theorem dX11_hasPiece_0 : decode cX11_hasPiece 0 = .ok (.iconst 0, 1) := by decide +kernel
theorem dX11_hasPiece_1 : decode cX11_hasPiece 1 = .ok (.istore 4, 2) := by decide +kernel
theorem dX11_hasPiece_3 : decode cX11_hasPiece 3 = .ok (.iload 4, 2) := by decide +kernel
theorem dX11_hasPiece_5 : decode cX11_hasPiece 5 = .ok (.aload_n 0, 1) := by decide +kernel
theorem dX11_hasPiece_6 : decode cX11_hasPiece 6 = .ok (.getfield 124, 3) := by decide +kernel
theorem dX11_hasPiece_9 : decode cX11_hasPiece 9 = .ok (.iload_n 1, 1) := by decide +kernel
theorem dX11_hasPiece_10 : decode cX11_hasPiece 10 = .ok (.iaload, 1) := by decide +kernel
theorem dX11_hasPiece_11 : decode cX11_hasPiece 11 = .ok (.if_icmp .ge 28, 3) := by decide +kernel
theorem dX11_hasPiece_14 : decode cX11_hasPiece 14 = .ok (.aload_n 0, 1) := by decide +kernel
theorem dX11_hasPiece_15 : decode cX11_hasPiece 15 = .ok (.getfield 170, 3) := by decide +kernel
theorem dX11_hasPiece_18 : decode cX11_hasPiece 18 = .ok (.bipush 12, 2) := by decide +kernel
theorem dX11_hasPiece_20 : decode cX11_hasPiece 20 = .ok (.iload_n 1, 1) := by decide +kernel
theorem dX11_hasPiece_21 : decode cX11_hasPiece 21 = .ok (.imul, 1) := by decide +kernel
theorem dX11_hasPiece_22 : decode cX11_hasPiece 22 = .ok (.iload 4, 2) := by decide +kernel
theorem dX11_hasPiece_24 : decode cX11_hasPiece 24 = .ok (.iadd, 1) := by decide +kernel
theorem dX11_hasPiece_25 : decode cX11_hasPiece 25 = .ok (.laload, 1) := by decide +kernel
theorem dX11_hasPiece_26 : decode cX11_hasPiece 26 = .ok (.lload_n 2, 1) := by decide +kernel
theorem dX11_hasPiece_27 : decode cX11_hasPiece 27 = .ok (.lcmp, 1) := by decide +kernel
theorem dX11_hasPiece_28 : decode cX11_hasPiece 28 = .ok (.ifCond .ne 5, 3) := by decide +kernel
theorem dX11_hasPiece_31 : decode cX11_hasPiece 31 = .ok (.iconst 1, 1) := by decide +kernel
theorem dX11_hasPiece_32 : decode cX11_hasPiece 32 = .ok (.ireturn, 1) := by decide +kernel
theorem dX11_hasPiece_33 : decode cX11_hasPiece 33 = .ok (.iinc 4 1, 3) := by decide +kernel
theorem dX11_hasPiece_36 : decode cX11_hasPiece 36 = .ok (.goto (-33), 3) := by decide +kernel
theorem dX11_hasPiece_39 : decode cX11_hasPiece 39 = .ok (.iconst 0, 1) := by decide +kernel
theorem dX11_hasPiece_40 : decode cX11_hasPiece 40 = .ok (.ireturn, 1) := by decide +kernel
theorem dX11_syllabus_0 : decode cX11_syllabus 0 = .ok (.iload_n 1, 1) := by decide +kernel
theorem dX11_syllabus_1 : decode cX11_syllabus 1 = .ok (.ifCond .lt 8, 3) := by decide +kernel
theorem dX11_syllabus_4 : decode cX11_syllabus 4 = .ok (.iload_n 1, 1) := by decide +kernel
theorem dX11_syllabus_5 : decode cX11_syllabus 5 = .ok (.iconst 4, 1) := by decide +kernel
theorem dX11_syllabus_6 : decode cX11_syllabus 6 = .ok (.if_icmp .lt 6, 3) := by decide +kernel
theorem dX11_syllabus_9 : decode cX11_syllabus 9 = .ok (.bipush (-2), 2) := by decide +kernel
theorem dX11_syllabus_11 : decode cX11_syllabus 11 = .ok (.ireturn, 1) := by decide +kernel
theorem dX11_syllabus_12 : decode cX11_syllabus 12 = .ok (.aload_n 0, 1) := by decide +kernel
theorem dX11_syllabus_13 : decode cX11_syllabus 13 = .ok (.iconst 0, 1) := by decide +kernel
theorem dX11_syllabus_14 : decode cX11_syllabus 14 = .ok (.putfield 11, 3) := by decide +kernel
theorem dX11_syllabus_17 : decode cX11_syllabus 17 = .ok (.aload_n 0, 1) := by decide +kernel
theorem dX11_syllabus_18 : decode cX11_syllabus 18 = .ok (.iconst (-1), 1) := by decide +kernel
theorem dX11_syllabus_19 : decode cX11_syllabus 19 = .ok (.putfield 14, 3) := by decide +kernel
theorem dX11_syllabus_22 : decode cX11_syllabus 22 = .ok (.aload_n 0, 1) := by decide +kernel
theorem dX11_syllabus_23 : decode cX11_syllabus 23 = .ok (.aload_n 0, 1) := by decide +kernel
theorem dX11_syllabus_24 : decode cX11_syllabus 24 = .ok (.getfield 272, 3) := by decide +kernel
theorem dX11_syllabus_27 : decode cX11_syllabus 27 = .ok (.putfield 1, 3) := by decide +kernel
theorem dX11_syllabus_30 : decode cX11_syllabus 30 = .ok (.iconst 0, 1) := by decide +kernel
theorem dX11_syllabus_31 : decode cX11_syllabus 31 = .ok (.istore_n 2, 1) := by decide +kernel
theorem dX11_syllabus_32 : decode cX11_syllabus 32 = .ok (.iload_n 2, 1) := by decide +kernel
theorem dX11_syllabus_33 : decode cX11_syllabus 33 = .ok (.aload_n 0, 1) := by decide +kernel
theorem dX11_syllabus_34 : decode cX11_syllabus 34 = .ok (.getfield 1, 3) := by decide +kernel
theorem dX11_syllabus_37 : decode cX11_syllabus 37 = .ok (.if_icmp .ge 21, 3) := by decide +kernel
theorem dX11_syllabus_40 : decode cX11_syllabus 40 = .ok (.aload_n 0, 1) := by decide +kernel
theorem dX11_syllabus_41 : decode cX11_syllabus 41 = .ok (.getfield 7, 3) := by decide +kernel
theorem dX11_syllabus_44 : decode cX11_syllabus 44 = .ok (.iload_n 2, 1) := by decide +kernel
theorem dX11_syllabus_45 : decode cX11_syllabus 45 = .ok (.aload_n 0, 1) := by decide +kernel
theorem dX11_syllabus_46 : decode cX11_syllabus 46 = .ok (.getfield 104, 3) := by decide +kernel
theorem dX11_syllabus_49 : decode cX11_syllabus 49 = .ok (.iload_n 2, 1) := by decide +kernel
theorem dX11_syllabus_50 : decode cX11_syllabus 50 = .ok (.baload, 1) := by decide +kernel
theorem dX11_syllabus_51 : decode cX11_syllabus 51 = .ok (.bastore, 1) := by decide +kernel
theorem dX11_syllabus_52 : decode cX11_syllabus 52 = .ok (.iinc 2 1, 3) := by decide +kernel
theorem dX11_syllabus_55 : decode cX11_syllabus 55 = .ok (.goto (-23), 3) := by decide +kernel
theorem dX11_syllabus_58 : decode cX11_syllabus 58 = .ok (.aload_n 0, 1) := by decide +kernel
theorem dX11_syllabus_59 : decode cX11_syllabus 59 = .ok (.iconst 0, 1) := by decide +kernel
theorem dX11_syllabus_60 : decode cX11_syllabus 60 = .ok (.putfield 272, 3) := by decide +kernel
theorem dX11_syllabus_63 : decode cX11_syllabus 63 = .ok (.aload_n 0, 1) := by decide +kernel
theorem dX11_syllabus_64 : decode cX11_syllabus 64 = .ok (.iconst 0, 1) := by decide +kernel
theorem dX11_syllabus_65 : decode cX11_syllabus 65 = .ok (.putfield 51, 3) := by decide +kernel
theorem dX11_syllabus_68 : decode cX11_syllabus 68 = .ok (.aload_n 0, 1) := by decide +kernel
theorem dX11_syllabus_69 : decode cX11_syllabus 69 = .ok (.iconst 0, 1) := by decide +kernel
theorem dX11_syllabus_70 : decode cX11_syllabus 70 = .ok (.putfield 275, 3) := by decide +kernel
theorem dX11_syllabus_73 : decode cX11_syllabus 73 = .ok (.aload_n 0, 1) := by decide +kernel
theorem dX11_syllabus_74 : decode cX11_syllabus 74 = .ok (.iconst 0, 1) := by decide +kernel
theorem dX11_syllabus_75 : decode cX11_syllabus 75 = .ok (.putfield 278, 3) := by decide +kernel
theorem dX11_syllabus_78 : decode cX11_syllabus 78 = .ok (.aload_n 0, 1) := by decide +kernel
theorem dX11_syllabus_79 : decode cX11_syllabus 79 = .ok (.getfield 163, 3) := by decide +kernel
theorem dX11_syllabus_82 : decode cX11_syllabus 82 = .ok (.aload_n 0, 1) := by decide +kernel
theorem dX11_syllabus_83 : decode cX11_syllabus 83 = .ok (.getfield 111, 3) := by decide +kernel
theorem dX11_syllabus_86 : decode cX11_syllabus 86 = .ok (.iconst 0, 1) := by decide +kernel
theorem dX11_syllabus_87 : decode cX11_syllabus 87 = .ok (.iastore, 1) := by decide +kernel
theorem dX11_syllabus_88 : decode cX11_syllabus 88 = .ok (.iconst 0, 1) := by decide +kernel
theorem dX11_syllabus_89 : decode cX11_syllabus 89 = .ok (.istore_n 2, 1) := by decide +kernel
theorem dX11_syllabus_90 : decode cX11_syllabus 90 = .ok (.iload_n 2, 1) := by decide +kernel
theorem dX11_syllabus_91 : decode cX11_syllabus 91 = .ok (.bipush 8, 2) := by decide +kernel
theorem dX11_syllabus_93 : decode cX11_syllabus 93 = .ok (.if_icmp .ge 24, 3) := by decide +kernel
theorem dX11_syllabus_96 : decode cX11_syllabus 96 = .ok (.aload_n 0, 1) := by decide +kernel
theorem dX11_syllabus_97 : decode cX11_syllabus 97 = .ok (.getfield 118, 3) := by decide +kernel
theorem dX11_syllabus_100 : decode cX11_syllabus 100 = .ok (.bipush 8, 2) := by decide +kernel
theorem dX11_syllabus_102 : decode cX11_syllabus 102 = .ok (.aload_n 0, 1) := by decide +kernel
theorem dX11_syllabus_103 : decode cX11_syllabus 103 = .ok (.getfield 111, 3) := by decide +kernel
theorem dX11_syllabus_106 : decode cX11_syllabus 106 = .ok (.imul, 1) := by decide +kernel
theorem dX11_syllabus_107 : decode cX11_syllabus 107 = .ok (.iload_n 2, 1) := by decide +kernel
theorem dX11_syllabus_108 : decode cX11_syllabus 108 = .ok (.iadd, 1) := by decide +kernel
theorem dX11_syllabus_109 : decode cX11_syllabus 109 = .ok (.iconst 0, 1) := by decide +kernel
theorem dX11_syllabus_110 : decode cX11_syllabus 110 = .ok (.bastore, 1) := by decide +kernel
theorem dX11_syllabus_111 : decode cX11_syllabus 111 = .ok (.iinc 2 1, 3) := by decide +kernel
theorem dX11_syllabus_114 : decode cX11_syllabus 114 = .ok (.goto (-24), 3) := by decide +kernel
theorem dX11_syllabus_117 : decode cX11_syllabus 117 = .ok (.aload_n 0, 1) := by decide +kernel
theorem dX11_syllabus_118 : decode cX11_syllabus 118 = .ok (.invokevirtual 88, 3) := by decide +kernel
theorem dX11_syllabus_121 : decode cX11_syllabus 121 = .ok (.aload_n 0, 1) := by decide +kernel
theorem dX11_syllabus_122 : decode cX11_syllabus 122 = .ok (.invokevirtual 95, 3) := by decide +kernel
theorem dX11_syllabus_125 : decode cX11_syllabus 125 = .ok (.ifCond .eq 17, 3) := by decide +kernel
theorem dX11_syllabus_128 : decode cX11_syllabus 128 = .ok (.aload_n 0, 1) := by decide +kernel
theorem dX11_syllabus_129 : decode cX11_syllabus 129 = .ok (.getfield 61, 3) := by decide +kernel
theorem dX11_syllabus_132 : decode cX11_syllabus 132 = .ok (.ifCond .eq 10, 3) := by decide +kernel
theorem dX11_syllabus_135 : decode cX11_syllabus 135 = .ok (.aload_n 0, 1) := by decide +kernel
theorem dX11_syllabus_136 : decode cX11_syllabus 136 = .ok (.invokevirtual 281, 3) := by decide +kernel
theorem dX11_syllabus_139 : decode cX11_syllabus 139 = .ok (.goto (-18), 3) := by decide +kernel
theorem dX11_syllabus_142 : decode cX11_syllabus 142 = .ok (.aload_n 0, 1) := by decide +kernel
theorem dX11_syllabus_143 : decode cX11_syllabus 143 = .ok (.invokevirtual 95, 3) := by decide +kernel
theorem dX11_syllabus_146 : decode cX11_syllabus 146 = .ok (.ifCond .ne 5, 3) := by decide +kernel
theorem dX11_syllabus_149 : decode cX11_syllabus 149 = .ok (.iconst (-1), 1) := by decide +kernel
theorem dX11_syllabus_150 : decode cX11_syllabus 150 = .ok (.ireturn, 1) := by decide +kernel
theorem dX11_syllabus_151 : decode cX11_syllabus 151 = .ok (.aload_n 0, 1) := by decide +kernel
theorem dX11_syllabus_152 : decode cX11_syllabus 152 = .ok (.getfield 107, 3) := by decide +kernel
theorem dX11_syllabus_155 : decode cX11_syllabus 155 = .ok (.iload_n 1, 1) := by decide +kernel
theorem dX11_syllabus_156 : decode cX11_syllabus 156 = .ok (.iaload, 1) := by decide +kernel
theorem dX11_syllabus_157 : decode cX11_syllabus 157 = .ok (.istore_n 2, 1) := by decide +kernel
theorem dX11_syllabus_158 : decode cX11_syllabus 158 = .ok (.aload_n 0, 1) := by decide +kernel
theorem dX11_syllabus_159 : decode cX11_syllabus 159 = .ok (.getfield 107, 3) := by decide +kernel
theorem dX11_syllabus_162 : decode cX11_syllabus 162 = .ok (.iload_n 1, 1) := by decide +kernel
theorem dX11_syllabus_163 : decode cX11_syllabus 163 = .ok (.aload_n 0, 1) := by decide +kernel
theorem dX11_syllabus_164 : decode cX11_syllabus 164 = .ok (.getfield 111, 3) := by decide +kernel
theorem dX11_syllabus_167 : decode cX11_syllabus 167 = .ok (.iastore, 1) := by decide +kernel
theorem dX11_syllabus_168 : decode cX11_syllabus 168 = .ok (.aload_n 0, 1) := by decide +kernel
theorem dX11_syllabus_169 : decode cX11_syllabus 169 = .ok (.iload_n 2, 1) := by decide +kernel
theorem dX11_syllabus_170 : decode cX11_syllabus 170 = .ok (.putfield 111, 3) := by decide +kernel
theorem dX11_syllabus_173 : decode cX11_syllabus 173 = .ok (.aload_n 0, 1) := by decide +kernel
theorem dX11_syllabus_174 : decode cX11_syllabus 174 = .ok (.getfield 114, 3) := by decide +kernel
theorem dX11_syllabus_177 : decode cX11_syllabus 177 = .ok (.iload_n 1, 1) := by decide +kernel
theorem dX11_syllabus_178 : decode cX11_syllabus 178 = .ok (.iconst 1, 1) := by decide +kernel
theorem dX11_syllabus_179 : decode cX11_syllabus 179 = .ok (.bastore, 1) := by decide +kernel
theorem dX11_syllabus_180 : decode cX11_syllabus 180 = .ok (.aload_n 0, 1) := by decide +kernel
theorem dX11_syllabus_181 : decode cX11_syllabus 181 = .ok (.getfield 163, 3) := by decide +kernel
theorem dX11_syllabus_184 : decode cX11_syllabus 184 = .ok (.aload_n 0, 1) := by decide +kernel
theorem dX11_syllabus_185 : decode cX11_syllabus 185 = .ok (.getfield 107, 3) := by decide +kernel
theorem dX11_syllabus_188 : decode cX11_syllabus 188 = .ok (.iload_n 1, 1) := by decide +kernel
theorem dX11_syllabus_189 : decode cX11_syllabus 189 = .ok (.iaload, 1) := by decide +kernel
theorem dX11_syllabus_190 : decode cX11_syllabus 190 = .ok (.iaload, 1) := by decide +kernel
theorem dX11_syllabus_191 : decode cX11_syllabus 191 = .ok (.ireturn, 1) := by decide +kernel
theorem dX11_readGrade_0 : decode cX11_readGrade 0 = .ok (.aload_n 0, 1) := by decide +kernel
theorem dX11_readGrade_1 : decode cX11_readGrade 1 = .ok (.ldc2_w 31, 3) := by decide +kernel
theorem dX11_readGrade_4 : decode cX11_readGrade 4 = .ok (.invokevirtual 284, 3) := by decide +kernel
theorem dX11_readGrade_7 : decode cX11_readGrade 7 = .ok (.ifCond .eq 10, 3) := by decide +kernel
theorem dX11_readGrade_10 : decode cX11_readGrade 10 = .ok (.aload_n 0, 1) := by decide +kernel
theorem dX11_readGrade_11 : decode cX11_readGrade 11 = .ok (.invokevirtual 88, 3) := by decide +kernel
theorem dX11_readGrade_14 : decode cX11_readGrade 14 = .ok (.goto 7, 3) := by decide +kernel
theorem dX11_readGrade_17 : decode cX11_readGrade 17 = .ok (.aload_n 0, 1) := by decide +kernel
theorem dX11_readGrade_18 : decode cX11_readGrade 18 = .ok (.invokevirtual 92, 3) := by decide +kernel
theorem dX11_readGrade_21 : decode cX11_readGrade 21 = .ok (.aload_n 0, 1) := by decide +kernel
theorem dX11_readGrade_22 : decode cX11_readGrade 22 = .ok (.invokevirtual 95, 3) := by decide +kernel
theorem dX11_readGrade_25 : decode cX11_readGrade 25 = .ok (.ifCond .eq 15, 3) := by decide +kernel
theorem dX11_readGrade_28 : decode cX11_readGrade 28 = .ok (.aload_n 0, 1) := by decide +kernel
theorem dX11_readGrade_29 : decode cX11_readGrade 29 = .ok (.getfield 61, 3) := by decide +kernel
theorem dX11_readGrade_32 : decode cX11_readGrade 32 = .ok (.iconst 4, 1) := by decide +kernel
theorem dX11_readGrade_33 : decode cX11_readGrade 33 = .ok (.if_icmp .eq 7, 3) := by decide +kernel
theorem dX11_readGrade_36 : decode cX11_readGrade 36 = .ok (.aload_n 0, 1) := by decide +kernel
theorem dX11_readGrade_37 : decode cX11_readGrade 37 = .ok (.invokevirtual 92, 3) := by decide +kernel
theorem dX11_readGrade_40 : decode cX11_readGrade 40 = .ok (.aload_n 0, 1) := by decide +kernel
theorem dX11_readGrade_41 : decode cX11_readGrade 41 = .ok (.invokevirtual 95, 3) := by decide +kernel
theorem dX11_readGrade_44 : decode cX11_readGrade 44 = .ok (.ifCond .eq 51, 3) := by decide +kernel
theorem dX11_readGrade_47 : decode cX11_readGrade 47 = .ok (.aload_n 0, 1) := by decide +kernel
theorem dX11_readGrade_48 : decode cX11_readGrade 48 = .ok (.getfield 78, 3) := by decide +kernel
theorem dX11_readGrade_51 : decode cX11_readGrade 51 = .ok (.iconst 1, 1) := by decide +kernel
theorem dX11_readGrade_52 : decode cX11_readGrade 52 = .ok (.if_icmp .lt 43, 3) := by decide +kernel
theorem dX11_readGrade_55 : decode cX11_readGrade 55 = .ok (.aload_n 0, 1) := by decide +kernel
theorem dX11_readGrade_56 : decode cX11_readGrade 56 = .ok (.getfield 78, 3) := by decide +kernel
theorem dX11_readGrade_59 : decode cX11_readGrade 59 = .ok (.bipush 8, 2) := by decide +kernel
theorem dX11_readGrade_61 : decode cX11_readGrade 61 = .ok (.if_icmp .gt 34, 3) := by decide +kernel
theorem dX11_readGrade_64 : decode cX11_readGrade 64 = .ok (.aload_n 0, 1) := by decide +kernel
theorem dX11_readGrade_65 : decode cX11_readGrade 65 = .ok (.getfield 118, 3) := by decide +kernel
theorem dX11_readGrade_68 : decode cX11_readGrade 68 = .ok (.bipush 8, 2) := by decide +kernel
theorem dX11_readGrade_70 : decode cX11_readGrade 70 = .ok (.aload_n 0, 1) := by decide +kernel
theorem dX11_readGrade_71 : decode cX11_readGrade 71 = .ok (.getfield 111, 3) := by decide +kernel
theorem dX11_readGrade_74 : decode cX11_readGrade 74 = .ok (.imul, 1) := by decide +kernel
theorem dX11_readGrade_75 : decode cX11_readGrade 75 = .ok (.aload_n 0, 1) := by decide +kernel
theorem dX11_readGrade_76 : decode cX11_readGrade 76 = .ok (.getfield 78, 3) := by decide +kernel
theorem dX11_readGrade_79 : decode cX11_readGrade 79 = .ok (.iadd, 1) := by decide +kernel
theorem dX11_readGrade_80 : decode cX11_readGrade 80 = .ok (.iconst 1, 1) := by decide +kernel
theorem dX11_readGrade_81 : decode cX11_readGrade 81 = .ok (.isub, 1) := by decide +kernel
theorem dX11_readGrade_82 : decode cX11_readGrade 82 = .ok (.baload, 1) := by decide +kernel
theorem dX11_readGrade_83 : decode cX11_readGrade 83 = .ok (.ifCond .eq 12, 3) := by decide +kernel
theorem dX11_readGrade_86 : decode cX11_readGrade 86 = .ok (.aload_n 0, 1) := by decide +kernel
theorem dX11_readGrade_87 : decode cX11_readGrade 87 = .ok (.iconst 3, 1) := by decide +kernel
theorem dX11_readGrade_88 : decode cX11_readGrade 88 = .ok (.aload_n 0, 1) := by decide +kernel
theorem dX11_readGrade_89 : decode cX11_readGrade 89 = .ok (.getfield 54, 3) := by decide +kernel
theorem dX11_readGrade_92 : decode cX11_readGrade 92 = .ok (.invokevirtual 81, 3) := by decide +kernel
theorem dX11_readGrade_95 : decode cX11_readGrade 95 = .ok (.aload_n 0, 1) := by decide +kernel
theorem dX11_readGrade_96 : decode cX11_readGrade 96 = .ok (.invokevirtual 95, 3) := by decide +kernel
theorem dX11_readGrade_99 : decode cX11_readGrade 99 = .ok (.ifCond .ne 4, 3) := by decide +kernel
theorem dX11_readGrade_102 : decode cX11_readGrade 102 = .ok (.return_, 1) := by decide +kernel
theorem dX11_readGrade_103 : decode cX11_readGrade 103 = .ok (.aload_n 0, 1) := by decide +kernel
theorem dX11_readGrade_104 : decode cX11_readGrade 104 = .ok (.iconst 1, 1) := by decide +kernel
theorem dX11_readGrade_105 : decode cX11_readGrade 105 = .ok (.bipush 8, 2) := by decide +kernel
theorem dX11_readGrade_107 : decode cX11_readGrade 107 = .ok (.invokevirtual 287, 3) := by decide +kernel
theorem dX11_readGrade_110 : decode cX11_readGrade 110 = .ok (.istore_n 1, 1) := by decide +kernel
theorem dX11_readGrade_111 : decode cX11_readGrade 111 = .ok (.aload_n 0, 1) := by decide +kernel
theorem dX11_readGrade_112 : decode cX11_readGrade 112 = .ok (.invokevirtual 95, 3) := by decide +kernel
theorem dX11_readGrade_115 : decode cX11_readGrade 115 = .ok (.ifCond .ne 4, 3) := by decide +kernel
theorem dX11_readGrade_118 : decode cX11_readGrade 118 = .ok (.return_, 1) := by decide +kernel
theorem dX11_readGrade_119 : decode cX11_readGrade 119 = .ok (.bipush 8, 2) := by decide +kernel
theorem dX11_readGrade_121 : decode cX11_readGrade 121 = .ok (.aload_n 0, 1) := by decide +kernel
theorem dX11_readGrade_122 : decode cX11_readGrade 122 = .ok (.getfield 111, 3) := by decide +kernel
theorem dX11_readGrade_125 : decode cX11_readGrade 125 = .ok (.imul, 1) := by decide +kernel
theorem dX11_readGrade_126 : decode cX11_readGrade 126 = .ok (.iload_n 1, 1) := by decide +kernel
theorem dX11_readGrade_127 : decode cX11_readGrade 127 = .ok (.iadd, 1) := by decide +kernel
theorem dX11_readGrade_128 : decode cX11_readGrade 128 = .ok (.iconst 1, 1) := by decide +kernel
theorem dX11_readGrade_129 : decode cX11_readGrade 129 = .ok (.isub, 1) := by decide +kernel
theorem dX11_readGrade_130 : decode cX11_readGrade 130 = .ok (.istore_n 2, 1) := by decide +kernel
theorem dX11_readGrade_131 : decode cX11_readGrade 131 = .ok (.aload_n 0, 1) := by decide +kernel
theorem dX11_readGrade_132 : decode cX11_readGrade 132 = .ok (.getfield 118, 3) := by decide +kernel
theorem dX11_readGrade_135 : decode cX11_readGrade 135 = .ok (.iload_n 2, 1) := by decide +kernel
theorem dX11_readGrade_136 : decode cX11_readGrade 136 = .ok (.iconst 1, 1) := by decide +kernel
theorem dX11_readGrade_137 : decode cX11_readGrade 137 = .ok (.bastore, 1) := by decide +kernel
theorem dX11_readGrade_138 : decode cX11_readGrade 138 = .ok (.aload_n 0, 1) := by decide +kernel
theorem dX11_readGrade_139 : decode cX11_readGrade 139 = .ok (.getfield 163, 3) := by decide +kernel
theorem dX11_readGrade_142 : decode cX11_readGrade 142 = .ok (.aload_n 0, 1) := by decide +kernel
theorem dX11_readGrade_143 : decode cX11_readGrade 143 = .ok (.getfield 111, 3) := by decide +kernel
theorem dX11_readGrade_146 : decode cX11_readGrade 146 = .ok (.dup2, 1) := by decide +kernel
theorem dX11_readGrade_147 : decode cX11_readGrade 147 = .ok (.iaload, 1) := by decide +kernel
theorem dX11_readGrade_148 : decode cX11_readGrade 148 = .ok (.iconst 1, 1) := by decide +kernel
theorem dX11_readGrade_149 : decode cX11_readGrade 149 = .ok (.iadd, 1) := by decide +kernel
theorem dX11_readGrade_150 : decode cX11_readGrade 150 = .ok (.iastore, 1) := by decide +kernel
theorem dX11_readGrade_151 : decode cX11_readGrade 151 = .ok (.aload_n 0, 1) := by decide +kernel
theorem dX11_readGrade_152 : decode cX11_readGrade 152 = .ok (.getfield 121, 3) := by decide +kernel
theorem dX11_readGrade_155 : decode cX11_readGrade 155 = .ok (.iload_n 2, 1) := by decide +kernel
theorem dX11_readGrade_156 : decode cX11_readGrade 156 = .ok (.iconst 0, 1) := by decide +kernel
theorem dX11_readGrade_157 : decode cX11_readGrade 157 = .ok (.iastore, 1) := by decide +kernel
theorem dX11_readGrade_158 : decode cX11_readGrade 158 = .ok (.aload_n 0, 1) := by decide +kernel
theorem dX11_readGrade_159 : decode cX11_readGrade 159 = .ok (.getfield 127, 3) := by decide +kernel
theorem dX11_readGrade_162 : decode cX11_readGrade 162 = .ok (.iload_n 2, 1) := by decide +kernel
theorem dX11_readGrade_163 : decode cX11_readGrade 163 = .ok (.iconst 0, 1) := by decide +kernel
theorem dX11_readGrade_164 : decode cX11_readGrade 164 = .ok (.iastore, 1) := by decide +kernel
theorem dX11_readGrade_165 : decode cX11_readGrade 165 = .ok (.aload_n 0, 1) := by decide +kernel
theorem dX11_readGrade_166 : decode cX11_readGrade 166 = .ok (.getfield 133, 3) := by decide +kernel
theorem dX11_readGrade_169 : decode cX11_readGrade 169 = .ok (.iload_n 2, 1) := by decide +kernel
theorem dX11_readGrade_170 : decode cX11_readGrade 170 = .ok (.iconst 0, 1) := by decide +kernel
theorem dX11_readGrade_171 : decode cX11_readGrade 171 = .ok (.iastore, 1) := by decide +kernel
theorem dX11_readGrade_172 : decode cX11_readGrade 172 = .ok (.aload_n 0, 1) := by decide +kernel
theorem dX11_readGrade_173 : decode cX11_readGrade 173 = .ok (.getfield 136, 3) := by decide +kernel
theorem dX11_readGrade_176 : decode cX11_readGrade 176 = .ok (.iload_n 2, 1) := by decide +kernel
theorem dX11_readGrade_177 : decode cX11_readGrade 177 = .ok (.iconst 0, 1) := by decide +kernel
theorem dX11_readGrade_178 : decode cX11_readGrade 178 = .ok (.iastore, 1) := by decide +kernel
theorem dX11_readGrade_179 : decode cX11_readGrade 179 = .ok (.aload_n 0, 1) := by decide +kernel
theorem dX11_readGrade_180 : decode cX11_readGrade 180 = .ok (.getfield 145, 3) := by decide +kernel
theorem dX11_readGrade_183 : decode cX11_readGrade 183 = .ok (.iload_n 2, 1) := by decide +kernel
theorem dX11_readGrade_184 : decode cX11_readGrade 184 = .ok (.iconst (-1), 1) := by decide +kernel
theorem dX11_readGrade_185 : decode cX11_readGrade 185 = .ok (.iastore, 1) := by decide +kernel
theorem dX11_readGrade_186 : decode cX11_readGrade 186 = .ok (.aload_n 0, 1) := by decide +kernel
theorem dX11_readGrade_187 : decode cX11_readGrade 187 = .ok (.getfield 151, 3) := by decide +kernel
theorem dX11_readGrade_190 : decode cX11_readGrade 190 = .ok (.iload_n 2, 1) := by decide +kernel
theorem dX11_readGrade_191 : decode cX11_readGrade 191 = .ok (.iconst (-1), 1) := by decide +kernel
theorem dX11_readGrade_192 : decode cX11_readGrade 192 = .ok (.iastore, 1) := by decide +kernel
theorem dX11_readGrade_193 : decode cX11_readGrade 193 = .ok (.aload_n 0, 1) := by decide +kernel
theorem dX11_readGrade_194 : decode cX11_readGrade 194 = .ok (.bipush 123, 2) := by decide +kernel
theorem dX11_readGrade_196 : decode cX11_readGrade 196 = .ok (.invokevirtual 291, 3) := by decide +kernel
theorem dX11_readGrade_199 : decode cX11_readGrade 199 = .ok (.aload_n 0, 1) := by decide +kernel
theorem dX11_readGrade_200 : decode cX11_readGrade 200 = .ok (.invokevirtual 95, 3) := by decide +kernel
theorem dX11_readGrade_203 : decode cX11_readGrade 203 = .ok (.ifCond .eq 20, 3) := by decide +kernel
theorem dX11_readGrade_206 : decode cX11_readGrade 206 = .ok (.aload_n 0, 1) := by decide +kernel
theorem dX11_readGrade_207 : decode cX11_readGrade 207 = .ok (.bipush 125, 2) := by decide +kernel
theorem dX11_readGrade_209 : decode cX11_readGrade 209 = .ok (.invokevirtual 85, 3) := by decide +kernel
theorem dX11_readGrade_212 : decode cX11_readGrade 212 = .ok (.ifCond .ne 11, 3) := by decide +kernel
theorem dX11_readGrade_215 : decode cX11_readGrade 215 = .ok (.aload_n 0, 1) := by decide +kernel
theorem dX11_readGrade_216 : decode cX11_readGrade 216 = .ok (.iload_n 2, 1) := by decide +kernel
theorem dX11_readGrade_217 : decode cX11_readGrade 217 = .ok (.invokevirtual 295, 3) := by decide +kernel
theorem dX11_readGrade_220 : decode cX11_readGrade 220 = .ok (.goto (-21), 3) := by decide +kernel
theorem dX11_readGrade_223 : decode cX11_readGrade 223 = .ok (.aload_n 0, 1) := by decide +kernel
theorem dX11_readGrade_224 : decode cX11_readGrade 224 = .ok (.invokevirtual 95, 3) := by decide +kernel
theorem dX11_readGrade_227 : decode cX11_readGrade 227 = .ok (.ifCond .eq 7, 3) := by decide +kernel
theorem dX11_readGrade_230 : decode cX11_readGrade 230 = .ok (.aload_n 0, 1) := by decide +kernel
theorem dX11_readGrade_231 : decode cX11_readGrade 231 = .ok (.invokevirtual 88, 3) := by decide +kernel
theorem dX11_readGrade_234 : decode cX11_readGrade 234 = .ok (.return_, 1) := by decide +kernel
theorem dX11_readItem_0 : decode cX11_readItem 0 = .ok (.aload_n 0, 1) := by decide +kernel
theorem dX11_readItem_1 : decode cX11_readItem 1 = .ok (.getfield 61, 3) := by decide +kernel
theorem dX11_readItem_4 : decode cX11_readItem 4 = .ok (.iconst 3, 1) := by decide +kernel
theorem dX11_readItem_5 : decode cX11_readItem 5 = .ok (.if_icmp .ne 10, 3) := by decide +kernel
theorem dX11_readItem_8 : decode cX11_readItem 8 = .ok (.aload_n 0, 1) := by decide +kernel
theorem dX11_readItem_9 : decode cX11_readItem 9 = .ok (.getfield 71, 3) := by decide +kernel
theorem dX11_readItem_12 : decode cX11_readItem 12 = .ok (.goto 4, 3) := by decide +kernel
theorem dX11_readItem_15 : decode cX11_readItem 15 = .ok (.lconst 0, 1) := by decide +kernel
theorem dX11_readItem_16 : decode cX11_readItem 16 = .ok (.lstore_n 2, 1) := by decide +kernel
theorem dX11_readItem_17 : decode cX11_readItem 17 = .ok (.lload_n 2, 1) := by decide +kernel
theorem dX11_readItem_18 : decode cX11_readItem 18 = .ok (.ldc2_w 33, 3) := by decide +kernel
theorem dX11_readItem_21 : decode cX11_readItem 21 = .ok (.lcmp, 1) := by decide +kernel
theorem dX11_readItem_22 : decode cX11_readItem 22 = .ok (.ifCond .ne 22, 3) := by decide +kernel
theorem dX11_readItem_25 : decode cX11_readItem 25 = .ok (.aload_n 0, 1) := by decide +kernel
theorem dX11_readItem_26 : decode cX11_readItem 26 = .ok (.getfield 121, 3) := by decide +kernel
theorem dX11_readItem_29 : decode cX11_readItem 29 = .ok (.iload_n 1, 1) := by decide +kernel
theorem dX11_readItem_30 : decode cX11_readItem 30 = .ok (.iaload, 1) := by decide +kernel
theorem dX11_readItem_31 : decode cX11_readItem 31 = .ok (.bipush 6, 2) := by decide +kernel
theorem dX11_readItem_33 : decode cX11_readItem 33 = .ok (.if_icmp .ne 7, 3) := by decide +kernel
theorem dX11_readItem_36 : decode cX11_readItem 36 = .ok (.iconst 1, 1) := by decide +kernel
theorem dX11_readItem_37 : decode cX11_readItem 37 = .ok (.goto 137, 3) := by decide +kernel
theorem dX11_readItem_40 : decode cX11_readItem 40 = .ok (.iconst 0, 1) := by decide +kernel
theorem dX11_readItem_41 : decode cX11_readItem 41 = .ok (.goto 133, 3) := by decide +kernel
theorem dX11_readItem_44 : decode cX11_readItem 44 = .ok (.lload_n 2, 1) := by decide +kernel
theorem dX11_readItem_45 : decode cX11_readItem 45 = .ok (.ldc2_w 35, 3) := by decide +kernel
theorem dX11_readItem_48 : decode cX11_readItem 48 = .ok (.lcmp, 1) := by decide +kernel
theorem dX11_readItem_49 : decode cX11_readItem 49 = .ok (.ifCond .ne 22, 3) := by decide +kernel
theorem dX11_readItem_52 : decode cX11_readItem 52 = .ok (.aload_n 0, 1) := by decide +kernel
theorem dX11_readItem_53 : decode cX11_readItem 53 = .ok (.getfield 127, 3) := by decide +kernel
theorem dX11_readItem_56 : decode cX11_readItem 56 = .ok (.iload_n 1, 1) := by decide +kernel
theorem dX11_readItem_57 : decode cX11_readItem 57 = .ok (.iaload, 1) := by decide +kernel
theorem dX11_readItem_58 : decode cX11_readItem 58 = .ok (.bipush 6, 2) := by decide +kernel
theorem dX11_readItem_60 : decode cX11_readItem 60 = .ok (.if_icmp .ne 7, 3) := by decide +kernel
theorem dX11_readItem_63 : decode cX11_readItem 63 = .ok (.iconst 1, 1) := by decide +kernel
theorem dX11_readItem_64 : decode cX11_readItem 64 = .ok (.goto 110, 3) := by decide +kernel
theorem dX11_readItem_67 : decode cX11_readItem 67 = .ok (.iconst 0, 1) := by decide +kernel
theorem dX11_readItem_68 : decode cX11_readItem 68 = .ok (.goto 106, 3) := by decide +kernel
theorem dX11_readItem_71 : decode cX11_readItem 71 = .ok (.lload_n 2, 1) := by decide +kernel
theorem dX11_readItem_72 : decode cX11_readItem 72 = .ok (.ldc2_w 39, 3) := by decide +kernel
theorem dX11_readItem_75 : decode cX11_readItem 75 = .ok (.lcmp, 1) := by decide +kernel
theorem dX11_readItem_76 : decode cX11_readItem 76 = .ok (.ifCond .ne 22, 3) := by decide +kernel
theorem dX11_readItem_79 : decode cX11_readItem 79 = .ok (.aload_n 0, 1) := by decide +kernel
theorem dX11_readItem_80 : decode cX11_readItem 80 = .ok (.getfield 133, 3) := by decide +kernel
theorem dX11_readItem_83 : decode cX11_readItem 83 = .ok (.iload_n 1, 1) := by decide +kernel
theorem dX11_readItem_84 : decode cX11_readItem 84 = .ok (.iaload, 1) := by decide +kernel
theorem dX11_readItem_85 : decode cX11_readItem 85 = .ok (.bipush 8, 2) := by decide +kernel
theorem dX11_readItem_87 : decode cX11_readItem 87 = .ok (.if_icmp .ne 7, 3) := by decide +kernel
theorem dX11_readItem_90 : decode cX11_readItem 90 = .ok (.iconst 1, 1) := by decide +kernel
theorem dX11_readItem_91 : decode cX11_readItem 91 = .ok (.goto 83, 3) := by decide +kernel
theorem dX11_readItem_94 : decode cX11_readItem 94 = .ok (.iconst 0, 1) := by decide +kernel
theorem dX11_readItem_95 : decode cX11_readItem 95 = .ok (.goto 79, 3) := by decide +kernel
theorem dX11_readItem_98 : decode cX11_readItem 98 = .ok (.lload_n 2, 1) := by decide +kernel
theorem dX11_readItem_99 : decode cX11_readItem 99 = .ok (.ldc2_w 37, 3) := by decide +kernel
theorem dX11_readItem_102 : decode cX11_readItem 102 = .ok (.lcmp, 1) := by decide +kernel
theorem dX11_readItem_103 : decode cX11_readItem 103 = .ok (.ifCond .ne 20, 3) := by decide +kernel
theorem dX11_readItem_106 : decode cX11_readItem 106 = .ok (.aload_n 0, 1) := by decide +kernel
theorem dX11_readItem_107 : decode cX11_readItem 107 = .ok (.getfield 136, 3) := by decide +kernel
theorem dX11_readItem_110 : decode cX11_readItem 110 = .ok (.iload_n 1, 1) := by decide +kernel
theorem dX11_readItem_111 : decode cX11_readItem 111 = .ok (.iaload, 1) := by decide +kernel
theorem dX11_readItem_112 : decode cX11_readItem 112 = .ok (.ifCond .le 7, 3) := by decide +kernel
theorem dX11_readItem_115 : decode cX11_readItem 115 = .ok (.iconst 1, 1) := by decide +kernel
theorem dX11_readItem_116 : decode cX11_readItem 116 = .ok (.goto 58, 3) := by decide +kernel
theorem dX11_readItem_119 : decode cX11_readItem 119 = .ok (.iconst 0, 1) := by decide +kernel
theorem dX11_readItem_120 : decode cX11_readItem 120 = .ok (.goto 54, 3) := by decide +kernel
theorem dX11_readItem_123 : decode cX11_readItem 123 = .ok (.lload_n 2, 1) := by decide +kernel
theorem dX11_readItem_124 : decode cX11_readItem 124 = .ok (.ldc2_w 41, 3) := by decide +kernel
theorem dX11_readItem_127 : decode cX11_readItem 127 = .ok (.lcmp, 1) := by decide +kernel
theorem dX11_readItem_128 : decode cX11_readItem 128 = .ok (.ifCond .ne 20, 3) := by decide +kernel
theorem dX11_readItem_131 : decode cX11_readItem 131 = .ok (.aload_n 0, 1) := by decide +kernel
theorem dX11_readItem_132 : decode cX11_readItem 132 = .ok (.getfield 145, 3) := by decide +kernel
theorem dX11_readItem_135 : decode cX11_readItem 135 = .ok (.iload_n 1, 1) := by decide +kernel
theorem dX11_readItem_136 : decode cX11_readItem 136 = .ok (.iaload, 1) := by decide +kernel
theorem dX11_readItem_137 : decode cX11_readItem 137 = .ok (.ifCond .lt 7, 3) := by decide +kernel
theorem dX11_readItem_140 : decode cX11_readItem 140 = .ok (.iconst 1, 1) := by decide +kernel
theorem dX11_readItem_141 : decode cX11_readItem 141 = .ok (.goto 33, 3) := by decide +kernel
theorem dX11_readItem_144 : decode cX11_readItem 144 = .ok (.iconst 0, 1) := by decide +kernel
theorem dX11_readItem_145 : decode cX11_readItem 145 = .ok (.goto 29, 3) := by decide +kernel
theorem dX11_readItem_148 : decode cX11_readItem 148 = .ok (.lload_n 2, 1) := by decide +kernel
theorem dX11_readItem_149 : decode cX11_readItem 149 = .ok (.ldc2_w 43, 3) := by decide +kernel
theorem dX11_readItem_152 : decode cX11_readItem 152 = .ok (.lcmp, 1) := by decide +kernel
theorem dX11_readItem_153 : decode cX11_readItem 153 = .ok (.ifCond .ne 20, 3) := by decide +kernel
theorem dX11_readItem_156 : decode cX11_readItem 156 = .ok (.aload_n 0, 1) := by decide +kernel
theorem dX11_readItem_157 : decode cX11_readItem 157 = .ok (.getfield 151, 3) := by decide +kernel
theorem dX11_readItem_160 : decode cX11_readItem 160 = .ok (.iload_n 1, 1) := by decide +kernel
theorem dX11_readItem_161 : decode cX11_readItem 161 = .ok (.iaload, 1) := by decide +kernel
theorem dX11_readItem_162 : decode cX11_readItem 162 = .ok (.ifCond .lt 7, 3) := by decide +kernel
theorem dX11_readItem_165 : decode cX11_readItem 165 = .ok (.iconst 1, 1) := by decide +kernel
theorem dX11_readItem_166 : decode cX11_readItem 166 = .ok (.goto 8, 3) := by decide +kernel
theorem dX11_readItem_169 : decode cX11_readItem 169 = .ok (.iconst 0, 1) := by decide +kernel
theorem dX11_readItem_170 : decode cX11_readItem 170 = .ok (.goto 4, 3) := by decide +kernel
theorem dX11_readItem_173 : decode cX11_readItem 173 = .ok (.iconst 1, 1) := by decide +kernel
theorem dX11_readItem_174 : decode cX11_readItem 174 = .ok (.istore 4, 2) := by decide +kernel
theorem dX11_readItem_176 : decode cX11_readItem 176 = .ok (.iload 4, 2) := by decide +kernel
theorem dX11_readItem_178 : decode cX11_readItem 178 = .ok (.ifCond .eq 7, 3) := by decide +kernel
theorem dX11_readItem_181 : decode cX11_readItem 181 = .ok (.aload_n 0, 1) := by decide +kernel
theorem dX11_readItem_182 : decode cX11_readItem 182 = .ok (.invokevirtual 92, 3) := by decide +kernel
theorem dX11_readItem_185 : decode cX11_readItem 185 = .ok (.aload_n 0, 1) := by decide +kernel
theorem dX11_readItem_186 : decode cX11_readItem 186 = .ok (.invokevirtual 95, 3) := by decide +kernel
theorem dX11_readItem_189 : decode cX11_readItem 189 = .ok (.ifCond .ne 4, 3) := by decide +kernel
theorem dX11_readItem_192 : decode cX11_readItem 192 = .ok (.return_, 1) := by decide +kernel
theorem dX11_readItem_193 : decode cX11_readItem 193 = .ok (.aload_n 0, 1) := by decide +kernel
theorem dX11_readItem_194 : decode cX11_readItem 194 = .ok (.invokevirtual 88, 3) := by decide +kernel
theorem dX11_readItem_197 : decode cX11_readItem 197 = .ok (.lload_n 2, 1) := by decide +kernel
theorem dX11_readItem_198 : decode cX11_readItem 198 = .ok (.ldc2_w 33, 3) := by decide +kernel
theorem dX11_readItem_201 : decode cX11_readItem 201 = .ok (.lcmp, 1) := by decide +kernel
theorem dX11_readItem_202 : decode cX11_readItem 202 = .ok (.ifCond .ne 11, 3) := by decide +kernel
theorem dX11_readItem_205 : decode cX11_readItem 205 = .ok (.aload_n 0, 1) := by decide +kernel
theorem dX11_readItem_206 : decode cX11_readItem 206 = .ok (.iload_n 1, 1) := by decide +kernel
theorem dX11_readItem_207 : decode cX11_readItem 207 = .ok (.invokevirtual 298, 3) := by decide +kernel
theorem dX11_readItem_210 : decode cX11_readItem 210 = .ok (.goto 173, 3) := by decide +kernel
theorem dX11_readItem_213 : decode cX11_readItem 213 = .ok (.lload_n 2, 1) := by decide +kernel
theorem dX11_readItem_214 : decode cX11_readItem 214 = .ok (.ldc2_w 35, 3) := by decide +kernel
theorem dX11_readItem_217 : decode cX11_readItem 217 = .ok (.lcmp, 1) := by decide +kernel
theorem dX11_readItem_218 : decode cX11_readItem 218 = .ok (.ifCond .ne 11, 3) := by decide +kernel
theorem dX11_readItem_221 : decode cX11_readItem 221 = .ok (.aload_n 0, 1) := by decide +kernel
theorem dX11_readItem_222 : decode cX11_readItem 222 = .ok (.iload_n 1, 1) := by decide +kernel
theorem dX11_readItem_223 : decode cX11_readItem 223 = .ok (.invokevirtual 301, 3) := by decide +kernel
theorem dX11_readItem_226 : decode cX11_readItem 226 = .ok (.goto 157, 3) := by decide +kernel
theorem dX11_readItem_229 : decode cX11_readItem 229 = .ok (.lload_n 2, 1) := by decide +kernel
theorem dX11_readItem_230 : decode cX11_readItem 230 = .ok (.ldc2_w 37, 3) := by decide +kernel
theorem dX11_readItem_233 : decode cX11_readItem 233 = .ok (.lcmp, 1) := by decide +kernel
theorem dX11_readItem_234 : decode cX11_readItem 234 = .ok (.ifCond .ne 19, 3) := by decide +kernel
theorem dX11_readItem_237 : decode cX11_readItem 237 = .ok (.aload_n 0, 1) := by decide +kernel
theorem dX11_readItem_238 : decode cX11_readItem 238 = .ok (.getfield 136, 3) := by decide +kernel
theorem dX11_readItem_241 : decode cX11_readItem 241 = .ok (.iload_n 1, 1) := by decide +kernel
theorem dX11_readItem_242 : decode cX11_readItem 242 = .ok (.aload_n 0, 1) := by decide +kernel
theorem dX11_readItem_243 : decode cX11_readItem 243 = .ok (.iconst 1, 1) := by decide +kernel
theorem dX11_readItem_244 : decode cX11_readItem 244 = .ok (.bipush 120, 2) := by decide +kernel
theorem dX11_readItem_246 : decode cX11_readItem 246 = .ok (.invokevirtual 287, 3) := by decide +kernel
theorem dX11_readItem_249 : decode cX11_readItem 249 = .ok (.iastore, 1) := by decide +kernel
theorem dX11_readItem_250 : decode cX11_readItem 250 = .ok (.goto 133, 3) := by decide +kernel
theorem dX11_readItem_253 : decode cX11_readItem 253 = .ok (.aload_n 0, 1) := by decide +kernel
theorem dX11_readItem_254 : decode cX11_readItem 254 = .ok (.getfield 278, 3) := by decide +kernel
theorem dX11_readItem_257 : decode cX11_readItem 257 = .ok (.istore 5, 2) := by decide +kernel
theorem dX11_readItem_259 : decode cX11_readItem 259 = .ok (.aload_n 0, 1) := by decide +kernel
theorem dX11_readItem_260 : decode cX11_readItem 260 = .ok (.iload_n 1, 1) := by decide +kernel
theorem dX11_readItem_261 : decode cX11_readItem 261 = .ok (.lload_n 2, 1) := by decide +kernel
theorem dX11_readItem_262 : decode cX11_readItem 262 = .ok (.ldc2_w 39, 3) := by decide +kernel
theorem dX11_readItem_265 : decode cX11_readItem 265 = .ok (.lcmp, 1) := by decide +kernel
theorem dX11_readItem_266 : decode cX11_readItem 266 = .ok (.ifCond .ne 7, 3) := by decide +kernel
theorem dX11_readItem_269 : decode cX11_readItem 269 = .ok (.iconst 1, 1) := by decide +kernel
theorem dX11_readItem_270 : decode cX11_readItem 270 = .ok (.goto 4, 3) := by decide +kernel
theorem dX11_readItem_273 : decode cX11_readItem 273 = .ok (.iconst 0, 1) := by decide +kernel
theorem dX11_readItem_274 : decode cX11_readItem 274 = .ok (.invokevirtual 304, 3) := by decide +kernel
theorem dX11_readItem_277 : decode cX11_readItem 277 = .ok (.lload_n 2, 1) := by decide +kernel
theorem dX11_readItem_278 : decode cX11_readItem 278 = .ok (.ldc2_w 39, 3) := by decide +kernel
theorem dX11_readItem_281 : decode cX11_readItem 281 = .ok (.lcmp, 1) := by decide +kernel
theorem dX11_readItem_282 : decode cX11_readItem 282 = .ok (.ifCond .ne 54, 3) := by decide +kernel
theorem dX11_readItem_285 : decode cX11_readItem 285 = .ok (.aload_n 0, 1) := by decide +kernel
theorem dX11_readItem_286 : decode cX11_readItem 286 = .ok (.getfield 139, 3) := by decide +kernel
theorem dX11_readItem_289 : decode cX11_readItem 289 = .ok (.bipush 8, 2) := by decide +kernel
theorem dX11_readItem_291 : decode cX11_readItem 291 = .ok (.iload_n 1, 1) := by decide +kernel
theorem dX11_readItem_292 : decode cX11_readItem 292 = .ok (.imul, 1) := by decide +kernel
theorem dX11_readItem_293 : decode cX11_readItem 293 = .ok (.aload_n 0, 1) := by decide +kernel
theorem dX11_readItem_294 : decode cX11_readItem 294 = .ok (.getfield 133, 3) := by decide +kernel
theorem dX11_readItem_297 : decode cX11_readItem 297 = .ok (.iload_n 1, 1) := by decide +kernel
theorem dX11_readItem_298 : decode cX11_readItem 298 = .ok (.iaload, 1) := by decide +kernel
theorem dX11_readItem_299 : decode cX11_readItem 299 = .ok (.iadd, 1) := by decide +kernel
theorem dX11_readItem_300 : decode cX11_readItem 300 = .ok (.iload 5, 2) := by decide +kernel
theorem dX11_readItem_302 : decode cX11_readItem 302 = .ok (.iastore, 1) := by decide +kernel
theorem dX11_readItem_303 : decode cX11_readItem 303 = .ok (.aload_n 0, 1) := by decide +kernel
theorem dX11_readItem_304 : decode cX11_readItem 304 = .ok (.getfield 142, 3) := by decide +kernel
theorem dX11_readItem_307 : decode cX11_readItem 307 = .ok (.bipush 8, 2) := by decide +kernel
theorem dX11_readItem_309 : decode cX11_readItem 309 = .ok (.iload_n 1, 1) := by decide +kernel
theorem dX11_readItem_310 : decode cX11_readItem 310 = .ok (.imul, 1) := by decide +kernel
theorem dX11_readItem_311 : decode cX11_readItem 311 = .ok (.aload_n 0, 1) := by decide +kernel
theorem dX11_readItem_312 : decode cX11_readItem 312 = .ok (.getfield 133, 3) := by decide +kernel
theorem dX11_readItem_315 : decode cX11_readItem 315 = .ok (.iload_n 1, 1) := by decide +kernel
theorem dX11_readItem_316 : decode cX11_readItem 316 = .ok (.iaload, 1) := by decide +kernel
theorem dX11_readItem_317 : decode cX11_readItem 317 = .ok (.iadd, 1) := by decide +kernel
theorem dX11_readItem_318 : decode cX11_readItem 318 = .ok (.aload_n 0, 1) := by decide +kernel
theorem dX11_readItem_319 : decode cX11_readItem 319 = .ok (.getfield 278, 3) := by decide +kernel
theorem dX11_readItem_322 : decode cX11_readItem 322 = .ok (.iastore, 1) := by decide +kernel
theorem dX11_readItem_323 : decode cX11_readItem 323 = .ok (.aload_n 0, 1) := by decide +kernel
theorem dX11_readItem_324 : decode cX11_readItem 324 = .ok (.getfield 133, 3) := by decide +kernel
theorem dX11_readItem_327 : decode cX11_readItem 327 = .ok (.iload_n 1, 1) := by decide +kernel
theorem dX11_readItem_328 : decode cX11_readItem 328 = .ok (.dup2, 1) := by decide +kernel
theorem dX11_readItem_329 : decode cX11_readItem 329 = .ok (.iaload, 1) := by decide +kernel
theorem dX11_readItem_330 : decode cX11_readItem 330 = .ok (.iconst 1, 1) := by decide +kernel
theorem dX11_readItem_331 : decode cX11_readItem 331 = .ok (.iadd, 1) := by decide +kernel
theorem dX11_readItem_332 : decode cX11_readItem 332 = .ok (.iastore, 1) := by decide +kernel
theorem dX11_readItem_333 : decode cX11_readItem 333 = .ok (.goto 50, 3) := by decide +kernel
theorem dX11_readItem_336 : decode cX11_readItem 336 = .ok (.lload_n 2, 1) := by decide +kernel
theorem dX11_readItem_337 : decode cX11_readItem 337 = .ok (.ldc2_w 41, 3) := by decide +kernel
theorem dX11_readItem_340 : decode cX11_readItem 340 = .ok (.lcmp, 1) := by decide +kernel
theorem dX11_readItem_341 : decode cX11_readItem 341 = .ok (.ifCond .ne 24, 3) := by decide +kernel
theorem dX11_readItem_344 : decode cX11_readItem 344 = .ok (.aload_n 0, 1) := by decide +kernel
theorem dX11_readItem_345 : decode cX11_readItem 345 = .ok (.getfield 145, 3) := by decide +kernel
theorem dX11_readItem_348 : decode cX11_readItem 348 = .ok (.iload_n 1, 1) := by decide +kernel
theorem dX11_readItem_349 : decode cX11_readItem 349 = .ok (.iload 5, 2) := by decide +kernel
theorem dX11_readItem_351 : decode cX11_readItem 351 = .ok (.iastore, 1) := by decide +kernel
theorem dX11_readItem_352 : decode cX11_readItem 352 = .ok (.aload_n 0, 1) := by decide +kernel
theorem dX11_readItem_353 : decode cX11_readItem 353 = .ok (.getfield 148, 3) := by decide +kernel
theorem dX11_readItem_356 : decode cX11_readItem 356 = .ok (.iload_n 1, 1) := by decide +kernel
theorem dX11_readItem_357 : decode cX11_readItem 357 = .ok (.aload_n 0, 1) := by decide +kernel
theorem dX11_readItem_358 : decode cX11_readItem 358 = .ok (.getfield 278, 3) := by decide +kernel
theorem dX11_readItem_361 : decode cX11_readItem 361 = .ok (.iastore, 1) := by decide +kernel
theorem dX11_readItem_362 : decode cX11_readItem 362 = .ok (.goto 21, 3) := by decide +kernel
theorem dX11_readItem_365 : decode cX11_readItem 365 = .ok (.aload_n 0, 1) := by decide +kernel
theorem dX11_readItem_366 : decode cX11_readItem 366 = .ok (.getfield 151, 3) := by decide +kernel
theorem dX11_readItem_369 : decode cX11_readItem 369 = .ok (.iload_n 1, 1) := by decide +kernel
theorem dX11_readItem_370 : decode cX11_readItem 370 = .ok (.iload 5, 2) := by decide +kernel
theorem dX11_readItem_372 : decode cX11_readItem 372 = .ok (.iastore, 1) := by decide +kernel
theorem dX11_readItem_373 : decode cX11_readItem 373 = .ok (.aload_n 0, 1) := by decide +kernel
theorem dX11_readItem_374 : decode cX11_readItem 374 = .ok (.getfield 154, 3) := by decide +kernel
theorem dX11_readItem_377 : decode cX11_readItem 377 = .ok (.iload_n 1, 1) := by decide +kernel
theorem dX11_readItem_378 : decode cX11_readItem 378 = .ok (.aload_n 0, 1) := by decide +kernel
theorem dX11_readItem_379 : decode cX11_readItem 379 = .ok (.getfield 278, 3) := by decide +kernel
theorem dX11_readItem_382 : decode cX11_readItem 382 = .ok (.iastore, 1) := by decide +kernel
theorem dX11_readItem_383 : decode cX11_readItem 383 = .ok (.aload_n 0, 1) := by decide +kernel
theorem dX11_readItem_384 : decode cX11_readItem 384 = .ok (.invokevirtual 95, 3) := by decide +kernel
theorem dX11_readItem_387 : decode cX11_readItem 387 = .ok (.ifCond .eq 9, 3) := by decide +kernel
theorem dX11_readItem_390 : decode cX11_readItem 390 = .ok (.aload_n 0, 1) := by decide +kernel
theorem dX11_readItem_391 : decode cX11_readItem 391 = .ok (.bipush 59, 2) := by decide +kernel
theorem dX11_readItem_393 : decode cX11_readItem 393 = .ok (.invokevirtual 291, 3) := by decide +kernel
theorem dX11_readItem_396 : decode cX11_readItem 396 = .ok (.return_, 1) := by decide +kernel
theorem dX11_canName_0 : decode cX11_canName 0 = .ok (.aload_n 0, 1) := by decide +kernel
theorem dX11_canName_1 : decode cX11_canName 1 = .ok (.getfield 61, 3) := by decide +kernel
theorem dX11_canName_4 : decode cX11_canName 4 = .ok (.iconst 2, 1) := by decide +kernel
theorem dX11_canName_5 : decode cX11_canName 5 = .ok (.if_icmp .eq 7, 3) := by decide +kernel
theorem dX11_canName_8 : decode cX11_canName 8 = .ok (.aload_n 0, 1) := by decide +kernel
theorem dX11_canName_9 : decode cX11_canName 9 = .ok (.invokevirtual 92, 3) := by decide +kernel
theorem dX11_canName_12 : decode cX11_canName 12 = .ok (.aload_n 0, 1) := by decide +kernel
theorem dX11_canName_13 : decode cX11_canName 13 = .ok (.invokevirtual 95, 3) := by decide +kernel
theorem dX11_canName_16 : decode cX11_canName 16 = .ok (.ifCond .eq 36, 3) := by decide +kernel
theorem dX11_canName_19 : decode cX11_canName 19 = .ok (.aload_n 0, 1) := by decide +kernel
theorem dX11_canName_20 : decode cX11_canName 20 = .ok (.iload_n 1, 1) := by decide +kernel
theorem dX11_canName_21 : decode cX11_canName 21 = .ok (.aload_n 0, 1) := by decide +kernel
theorem dX11_canName_22 : decode cX11_canName 22 = .ok (.getfield 71, 3) := by decide +kernel
theorem dX11_canName_25 : decode cX11_canName 25 = .ok (.invokevirtual 308, 3) := by decide +kernel
theorem dX11_canName_28 : decode cX11_canName 28 = .ok (.ifCond .ge 15, 3) := by decide +kernel
theorem dX11_canName_31 : decode cX11_canName 31 = .ok (.aload_n 0, 1) := by decide +kernel
theorem dX11_canName_32 : decode cX11_canName 32 = .ok (.iload_n 1, 1) := by decide +kernel
theorem dX11_canName_33 : decode cX11_canName 33 = .ok (.aload_n 0, 1) := by decide +kernel
theorem dX11_canName_34 : decode cX11_canName 34 = .ok (.getfield 71, 3) := by decide +kernel
theorem dX11_canName_37 : decode cX11_canName 37 = .ok (.invokevirtual 312, 3) := by decide +kernel
theorem dX11_canName_40 : decode cX11_canName 40 = .ok (.ifCond .lt 12, 3) := by decide +kernel
theorem dX11_canName_43 : decode cX11_canName 43 = .ok (.aload_n 0, 1) := by decide +kernel
theorem dX11_canName_44 : decode cX11_canName 44 = .ok (.iconst 3, 1) := by decide +kernel
theorem dX11_canName_45 : decode cX11_canName 45 = .ok (.aload_n 0, 1) := by decide +kernel
theorem dX11_canName_46 : decode cX11_canName 46 = .ok (.getfield 54, 3) := by decide +kernel
theorem dX11_canName_49 : decode cX11_canName 49 = .ok (.invokevirtual 81, 3) := by decide +kernel
theorem dX11_canName_52 : decode cX11_canName 52 = .ok (.aload_n 0, 1) := by decide +kernel
theorem dX11_canName_53 : decode cX11_canName 53 = .ok (.invokevirtual 95, 3) := by decide +kernel
theorem dX11_canName_56 : decode cX11_canName 56 = .ok (.ireturn, 1) := by decide +kernel
theorem dX11_readList_0 : decode cX11_readList 0 = .ok (.aload_n 0, 1) := by decide +kernel
theorem dX11_readList_1 : decode cX11_readList 1 = .ok (.iload_n 1, 1) := by decide +kernel
theorem dX11_readList_2 : decode cX11_readList 2 = .ok (.invokevirtual 315, 3) := by decide +kernel
theorem dX11_readList_5 : decode cX11_readList 5 = .ok (.ifCond .ne 4, 3) := by decide +kernel
theorem dX11_readList_8 : decode cX11_readList 8 = .ok (.return_, 1) := by decide +kernel
theorem dX11_readList_9 : decode cX11_readList 9 = .ok (.bipush 6, 2) := by decide +kernel
theorem dX11_readList_11 : decode cX11_readList 11 = .ok (.iload_n 1, 1) := by decide +kernel
theorem dX11_readList_12 : decode cX11_readList 12 = .ok (.imul, 1) := by decide +kernel
theorem dX11_readList_13 : decode cX11_readList 13 = .ok (.aload_n 0, 1) := by decide +kernel
theorem dX11_readList_14 : decode cX11_readList 14 = .ok (.getfield 121, 3) := by decide +kernel
theorem dX11_readList_17 : decode cX11_readList 17 = .ok (.iload_n 1, 1) := by decide +kernel
theorem dX11_readList_18 : decode cX11_readList 18 = .ok (.iaload, 1) := by decide +kernel
theorem dX11_readList_19 : decode cX11_readList 19 = .ok (.iadd, 1) := by decide +kernel
theorem dX11_readList_20 : decode cX11_readList 20 = .ok (.istore_n 2, 1) := by decide +kernel
theorem dX11_readList_21 : decode cX11_readList 21 = .ok (.aload_n 0, 1) := by decide +kernel
theorem dX11_readList_22 : decode cX11_readList 22 = .ok (.getfield 166, 3) := by decide +kernel
theorem dX11_readList_25 : decode cX11_readList 25 = .ok (.iload_n 2, 1) := by decide +kernel
theorem dX11_readList_26 : decode cX11_readList 26 = .ok (.aload_n 0, 1) := by decide +kernel
theorem dX11_readList_27 : decode cX11_readList 27 = .ok (.getfield 71, 3) := by decide +kernel
theorem dX11_readList_30 : decode cX11_readList 30 = .ok (.lastore, 1) := by decide +kernel
theorem dX11_readList_31 : decode cX11_readList 31 = .ok (.aload_n 0, 1) := by decide +kernel
theorem dX11_readList_32 : decode cX11_readList 32 = .ok (.getfield 124, 3) := by decide +kernel
theorem dX11_readList_35 : decode cX11_readList 35 = .ok (.iload_n 2, 1) := by decide +kernel
theorem dX11_readList_36 : decode cX11_readList 36 = .ok (.iconst 0, 1) := by decide +kernel
theorem dX11_readList_37 : decode cX11_readList 37 = .ok (.iastore, 1) := by decide +kernel
theorem dX11_readList_38 : decode cX11_readList 38 = .ok (.aload_n 0, 1) := by decide +kernel
theorem dX11_readList_39 : decode cX11_readList 39 = .ok (.getfield 121, 3) := by decide +kernel
theorem dX11_readList_42 : decode cX11_readList 42 = .ok (.iload_n 1, 1) := by decide +kernel
theorem dX11_readList_43 : decode cX11_readList 43 = .ok (.dup2, 1) := by decide +kernel
theorem dX11_readList_44 : decode cX11_readList 44 = .ok (.iaload, 1) := by decide +kernel
theorem dX11_readList_45 : decode cX11_readList 45 = .ok (.iconst 1, 1) := by decide +kernel
theorem dX11_readList_46 : decode cX11_readList 46 = .ok (.iadd, 1) := by decide +kernel
theorem dX11_readList_47 : decode cX11_readList 47 = .ok (.iastore, 1) := by decide +kernel
theorem dX11_readList_48 : decode cX11_readList 48 = .ok (.aload_n 0, 1) := by decide +kernel
theorem dX11_readList_49 : decode cX11_readList 49 = .ok (.invokevirtual 88, 3) := by decide +kernel
theorem dX11_readList_52 : decode cX11_readList 52 = .ok (.aload_n 0, 1) := by decide +kernel
theorem dX11_readList_53 : decode cX11_readList 53 = .ok (.bipush 61, 2) := by decide +kernel
theorem dX11_readList_55 : decode cX11_readList 55 = .ok (.invokevirtual 291, 3) := by decide +kernel
theorem dX11_readList_58 : decode cX11_readList 58 = .ok (.iconst 1, 1) := by decide +kernel
theorem dX11_readList_59 : decode cX11_readList 59 = .ok (.istore_n 3, 1) := by decide +kernel
theorem dX11_readList_60 : decode cX11_readList 60 = .ok (.iload_n 3, 1) := by decide +kernel
theorem dX11_readList_61 : decode cX11_readList 61 = .ok (.ifCond .eq 121, 3) := by decide +kernel
theorem dX11_readList_64 : decode cX11_readList 64 = .ok (.aload_n 0, 1) := by decide +kernel
theorem dX11_readList_65 : decode cX11_readList 65 = .ok (.invokevirtual 95, 3) := by decide +kernel
theorem dX11_readList_68 : decode cX11_readList 68 = .ok (.ifCond .eq 114, 3) := by decide +kernel
theorem dX11_readList_71 : decode cX11_readList 71 = .ok (.aload_n 0, 1) := by decide +kernel
theorem dX11_readList_72 : decode cX11_readList 72 = .ok (.getfield 61, 3) := by decide +kernel
theorem dX11_readList_75 : decode cX11_readList 75 = .ok (.iconst 2, 1) := by decide +kernel
theorem dX11_readList_76 : decode cX11_readList 76 = .ok (.if_icmp .ne 14, 3) := by decide +kernel
theorem dX11_readList_79 : decode cX11_readList 79 = .ok (.aload_n 0, 1) := by decide +kernel
theorem dX11_readList_80 : decode cX11_readList 80 = .ok (.getfield 124, 3) := by decide +kernel
theorem dX11_readList_83 : decode cX11_readList 83 = .ok (.iload_n 2, 1) := by decide +kernel
theorem dX11_readList_84 : decode cX11_readList 84 = .ok (.iaload, 1) := by decide +kernel
theorem dX11_readList_85 : decode cX11_readList 85 = .ok (.bipush 12, 2) := by decide +kernel
theorem dX11_readList_87 : decode cX11_readList 87 = .ok (.if_icmp .ne 7, 3) := by decide +kernel
theorem dX11_readList_90 : decode cX11_readList 90 = .ok (.aload_n 0, 1) := by decide +kernel
theorem dX11_readList_91 : decode cX11_readList 91 = .ok (.invokevirtual 92, 3) := by decide +kernel
theorem dX11_readList_94 : decode cX11_readList 94 = .ok (.aload_n 0, 1) := by decide +kernel
theorem dX11_readList_95 : decode cX11_readList 95 = .ok (.invokevirtual 95, 3) := by decide +kernel
theorem dX11_readList_98 : decode cX11_readList 98 = .ok (.ifCond .eq 24, 3) := by decide +kernel
theorem dX11_readList_101 : decode cX11_readList 101 = .ok (.aload_n 0, 1) := by decide +kernel
theorem dX11_readList_102 : decode cX11_readList 102 = .ok (.iload_n 2, 1) := by decide +kernel
theorem dX11_readList_103 : decode cX11_readList 103 = .ok (.aload_n 0, 1) := by decide +kernel
theorem dX11_readList_104 : decode cX11_readList 104 = .ok (.getfield 71, 3) := by decide +kernel
theorem dX11_readList_107 : decode cX11_readList 107 = .ok (.invokevirtual 318, 3) := by decide +kernel
theorem dX11_readList_110 : decode cX11_readList 110 = .ok (.ifCond .eq 12, 3) := by decide +kernel
theorem dX11_readList_113 : decode cX11_readList 113 = .ok (.aload_n 0, 1) := by decide +kernel
theorem dX11_readList_114 : decode cX11_readList 114 = .ok (.iconst 3, 1) := by decide +kernel
theorem dX11_readList_115 : decode cX11_readList 115 = .ok (.aload_n 0, 1) := by decide +kernel
theorem dX11_readList_116 : decode cX11_readList 116 = .ok (.getfield 54, 3) := by decide +kernel
theorem dX11_readList_119 : decode cX11_readList 119 = .ok (.invokevirtual 81, 3) := by decide +kernel
theorem dX11_readList_122 : decode cX11_readList 122 = .ok (.aload_n 0, 1) := by decide +kernel
theorem dX11_readList_123 : decode cX11_readList 123 = .ok (.invokevirtual 95, 3) := by decide +kernel
theorem dX11_readList_126 : decode cX11_readList 126 = .ok (.ifCond .ne 4, 3) := by decide +kernel
theorem dX11_readList_129 : decode cX11_readList 129 = .ok (.return_, 1) := by decide +kernel
theorem dX11_readList_130 : decode cX11_readList 130 = .ok (.aload_n 0, 1) := by decide +kernel
theorem dX11_readList_131 : decode cX11_readList 131 = .ok (.getfield 170, 3) := by decide +kernel
theorem dX11_readList_134 : decode cX11_readList 134 = .ok (.bipush 12, 2) := by decide +kernel
theorem dX11_readList_136 : decode cX11_readList 136 = .ok (.iload_n 2, 1) := by decide +kernel
theorem dX11_readList_137 : decode cX11_readList 137 = .ok (.imul, 1) := by decide +kernel
theorem dX11_readList_138 : decode cX11_readList 138 = .ok (.aload_n 0, 1) := by decide +kernel
theorem dX11_readList_139 : decode cX11_readList 139 = .ok (.getfield 124, 3) := by decide +kernel
theorem dX11_readList_142 : decode cX11_readList 142 = .ok (.iload_n 2, 1) := by decide +kernel
theorem dX11_readList_143 : decode cX11_readList 143 = .ok (.iaload, 1) := by decide +kernel
theorem dX11_readList_144 : decode cX11_readList 144 = .ok (.iadd, 1) := by decide +kernel
theorem dX11_readList_145 : decode cX11_readList 145 = .ok (.aload_n 0, 1) := by decide +kernel
theorem dX11_readList_146 : decode cX11_readList 146 = .ok (.getfield 71, 3) := by decide +kernel
theorem dX11_readList_149 : decode cX11_readList 149 = .ok (.lastore, 1) := by decide +kernel
theorem dX11_readList_150 : decode cX11_readList 150 = .ok (.aload_n 0, 1) := by decide +kernel
theorem dX11_readList_151 : decode cX11_readList 151 = .ok (.getfield 124, 3) := by decide +kernel
theorem dX11_readList_154 : decode cX11_readList 154 = .ok (.iload_n 2, 1) := by decide +kernel
theorem dX11_readList_155 : decode cX11_readList 155 = .ok (.dup2, 1) := by decide +kernel
theorem dX11_readList_156 : decode cX11_readList 156 = .ok (.iaload, 1) := by decide +kernel
theorem dX11_readList_157 : decode cX11_readList 157 = .ok (.iconst 1, 1) := by decide +kernel
theorem dX11_readList_158 : decode cX11_readList 158 = .ok (.iadd, 1) := by decide +kernel
theorem dX11_readList_159 : decode cX11_readList 159 = .ok (.iastore, 1) := by decide +kernel
theorem dX11_readList_160 : decode cX11_readList 160 = .ok (.aload_n 0, 1) := by decide +kernel
theorem dX11_readList_161 : decode cX11_readList 161 = .ok (.invokevirtual 88, 3) := by decide +kernel
theorem dX11_readList_164 : decode cX11_readList 164 = .ok (.aload_n 0, 1) := by decide +kernel
theorem dX11_readList_165 : decode cX11_readList 165 = .ok (.bipush 44, 2) := by decide +kernel
theorem dX11_readList_167 : decode cX11_readList 167 = .ok (.invokevirtual 85, 3) := by decide +kernel
theorem dX11_readList_170 : decode cX11_readList 170 = .ok (.istore_n 3, 1) := by decide +kernel
theorem dX11_readList_171 : decode cX11_readList 171 = .ok (.iload_n 3, 1) := by decide +kernel
theorem dX11_readList_172 : decode cX11_readList 172 = .ok (.ifCond .eq (-112), 3) := by decide +kernel
theorem dX11_readList_175 : decode cX11_readList 175 = .ok (.aload_n 0, 1) := by decide +kernel
theorem dX11_readList_176 : decode cX11_readList 176 = .ok (.invokevirtual 88, 3) := by decide +kernel
theorem dX11_readList_179 : decode cX11_readList 179 = .ok (.goto (-119), 3) := by decide +kernel
theorem dX11_readList_182 : decode cX11_readList 182 = .ok (.return_, 1) := by decide +kernel
theorem dX11_readPart_0 : decode cX11_readPart 0 = .ok (.aload_n 0, 1) := by decide +kernel
theorem dX11_readPart_1 : decode cX11_readPart 1 = .ok (.iload_n 1, 1) := by decide +kernel
theorem dX11_readPart_2 : decode cX11_readPart 2 = .ok (.invokevirtual 315, 3) := by decide +kernel
theorem dX11_readPart_5 : decode cX11_readPart 5 = .ok (.ifCond .ne 4, 3) := by decide +kernel
theorem dX11_readPart_8 : decode cX11_readPart 8 = .ok (.return_, 1) := by decide +kernel
theorem dX11_readPart_9 : decode cX11_readPart 9 = .ok (.bipush 6, 2) := by decide +kernel
theorem dX11_readPart_11 : decode cX11_readPart 11 = .ok (.iload_n 1, 1) := by decide +kernel
theorem dX11_readPart_12 : decode cX11_readPart 12 = .ok (.imul, 1) := by decide +kernel
theorem dX11_readPart_13 : decode cX11_readPart 13 = .ok (.aload_n 0, 1) := by decide +kernel
theorem dX11_readPart_14 : decode cX11_readPart 14 = .ok (.getfield 127, 3) := by decide +kernel
theorem dX11_readPart_17 : decode cX11_readPart 17 = .ok (.iload_n 1, 1) := by decide +kernel
theorem dX11_readPart_18 : decode cX11_readPart 18 = .ok (.iaload, 1) := by decide +kernel
theorem dX11_readPart_19 : decode cX11_readPart 19 = .ok (.iadd, 1) := by decide +kernel
theorem dX11_readPart_20 : decode cX11_readPart 20 = .ok (.istore_n 2, 1) := by decide +kernel
theorem dX11_readPart_21 : decode cX11_readPart 21 = .ok (.aload_n 0, 1) := by decide +kernel
theorem dX11_readPart_22 : decode cX11_readPart 22 = .ok (.getfield 173, 3) := by decide +kernel
theorem dX11_readPart_25 : decode cX11_readPart 25 = .ok (.iload_n 2, 1) := by decide +kernel
theorem dX11_readPart_26 : decode cX11_readPart 26 = .ok (.aload_n 0, 1) := by decide +kernel
theorem dX11_readPart_27 : decode cX11_readPart 27 = .ok (.getfield 71, 3) := by decide +kernel
theorem dX11_readPart_30 : decode cX11_readPart 30 = .ok (.lastore, 1) := by decide +kernel
theorem dX11_readPart_31 : decode cX11_readPart 31 = .ok (.aload_n 0, 1) := by decide +kernel
theorem dX11_readPart_32 : decode cX11_readPart 32 = .ok (.invokevirtual 88, 3) := by decide +kernel
theorem dX11_readPart_35 : decode cX11_readPart 35 = .ok (.aload_n 0, 1) := by decide +kernel
theorem dX11_readPart_36 : decode cX11_readPart 36 = .ok (.getfield 130, 3) := by decide +kernel
theorem dX11_readPart_39 : decode cX11_readPart 39 = .ok (.iload_n 2, 1) := by decide +kernel
theorem dX11_readPart_40 : decode cX11_readPart 40 = .ok (.aload_n 0, 1) := by decide +kernel
theorem dX11_readPart_41 : decode cX11_readPart 41 = .ok (.iconst 1, 1) := by decide +kernel
theorem dX11_readPart_42 : decode cX11_readPart 42 = .ok (.sipush 200, 3) := by decide +kernel
theorem dX11_readPart_45 : decode cX11_readPart 45 = .ok (.invokevirtual 287, 3) := by decide +kernel
theorem dX11_readPart_48 : decode cX11_readPart 48 = .ok (.iastore, 1) := by decide +kernel
theorem dX11_readPart_49 : decode cX11_readPart 49 = .ok (.aload_n 0, 1) := by decide +kernel
theorem dX11_readPart_50 : decode cX11_readPart 50 = .ok (.getfield 127, 3) := by decide +kernel
theorem dX11_readPart_53 : decode cX11_readPart 53 = .ok (.iload_n 1, 1) := by decide +kernel
theorem dX11_readPart_54 : decode cX11_readPart 54 = .ok (.dup2, 1) := by decide +kernel
theorem dX11_readPart_55 : decode cX11_readPart 55 = .ok (.iaload, 1) := by decide +kernel
theorem dX11_readPart_56 : decode cX11_readPart 56 = .ok (.iconst 1, 1) := by decide +kernel
theorem dX11_readPart_57 : decode cX11_readPart 57 = .ok (.iadd, 1) := by decide +kernel
theorem dX11_readPart_58 : decode cX11_readPart 58 = .ok (.iastore, 1) := by decide +kernel
theorem dX11_readPart_59 : decode cX11_readPart 59 = .ok (.return_, 1) := by decide +kernel
theorem dX11_step_0 : decode cX11_step 0 = .ok (.aload_n 0, 1) := by decide +kernel
theorem dX11_step_1 : decode cX11_step 1 = .ok (.getfield 157, 3) := by decide +kernel
theorem dX11_step_4 : decode cX11_step 4 = .ok (.sipush 1500, 3) := by decide +kernel
theorem dX11_step_7 : decode cX11_step 7 = .ok (.aload_n 0, 1) := by decide +kernel
theorem dX11_step_8 : decode cX11_step 8 = .ok (.getfield 111, 3) := by decide +kernel
theorem dX11_step_11 : decode cX11_step 11 = .ok (.imul, 1) := by decide +kernel
theorem dX11_step_12 : decode cX11_step 12 = .ok (.aload_n 0, 1) := by decide +kernel
theorem dX11_step_13 : decode cX11_step 13 = .ok (.getfield 278, 3) := by decide +kernel
theorem dX11_step_16 : decode cX11_step 16 = .ok (.iadd, 1) := by decide +kernel
theorem dX11_step_17 : decode cX11_step 17 = .ok (.iload_n 1, 1) := by decide +kernel
theorem dX11_step_18 : decode cX11_step 18 = .ok (.iastore, 1) := by decide +kernel
theorem dX11_step_19 : decode cX11_step 19 = .ok (.aload_n 0, 1) := by decide +kernel
theorem dX11_step_20 : decode cX11_step 20 = .ok (.getfield 160, 3) := by decide +kernel
theorem dX11_step_23 : decode cX11_step 23 = .ok (.sipush 1500, 3) := by decide +kernel
theorem dX11_step_26 : decode cX11_step 26 = .ok (.aload_n 0, 1) := by decide +kernel
theorem dX11_step_27 : decode cX11_step 27 = .ok (.getfield 111, 3) := by decide +kernel
theorem dX11_step_30 : decode cX11_step 30 = .ok (.imul, 1) := by decide +kernel
theorem dX11_step_31 : decode cX11_step 31 = .ok (.aload_n 0, 1) := by decide +kernel
theorem dX11_step_32 : decode cX11_step 32 = .ok (.getfield 278, 3) := by decide +kernel
theorem dX11_step_35 : decode cX11_step 35 = .ok (.iadd, 1) := by decide +kernel
theorem dX11_step_36 : decode cX11_step 36 = .ok (.iload_n 2, 1) := by decide +kernel
theorem dX11_step_37 : decode cX11_step 37 = .ok (.iastore, 1) := by decide +kernel
theorem dX11_step_38 : decode cX11_step 38 = .ok (.aload_n 0, 1) := by decide +kernel
theorem dX11_step_39 : decode cX11_step 39 = .ok (.dup, 1) := by decide +kernel
theorem dX11_step_40 : decode cX11_step 40 = .ok (.getfield 278, 3) := by decide +kernel
theorem dX11_step_43 : decode cX11_step 43 = .ok (.iconst 1, 1) := by decide +kernel
theorem dX11_step_44 : decode cX11_step 44 = .ok (.iadd, 1) := by decide +kernel
theorem dX11_step_45 : decode cX11_step 45 = .ok (.putfield 278, 3) := by decide +kernel
theorem dX11_step_48 : decode cX11_step 48 = .ok (.return_, 1) := by decide +kernel
theorem dX11_pile_0 : decode cX11_pile 0 = .ok (.aload_n 0, 1) := by decide +kernel
theorem dX11_pile_1 : decode cX11_pile 1 = .ok (.getfield 176, 3) := by decide +kernel
theorem dX11_pile_4 : decode cX11_pile 4 = .ok (.aload_n 0, 1) := by decide +kernel
theorem dX11_pile_5 : decode cX11_pile 5 = .ok (.getfield 322, 3) := by decide +kernel
theorem dX11_pile_8 : decode cX11_pile 8 = .ok (.iload_n 1, 1) := by decide +kernel
theorem dX11_pile_9 : decode cX11_pile 9 = .ok (.iastore, 1) := by decide +kernel
theorem dX11_pile_10 : decode cX11_pile 10 = .ok (.aload_n 0, 1) := by decide +kernel
theorem dX11_pile_11 : decode cX11_pile 11 = .ok (.getfield 179, 3) := by decide +kernel
theorem dX11_pile_14 : decode cX11_pile 14 = .ok (.aload_n 0, 1) := by decide +kernel
theorem dX11_pile_15 : decode cX11_pile 15 = .ok (.getfield 322, 3) := by decide +kernel
theorem dX11_pile_18 : decode cX11_pile 18 = .ok (.iload_n 2, 1) := by decide +kernel
theorem dX11_pile_19 : decode cX11_pile 19 = .ok (.iastore, 1) := by decide +kernel
theorem dX11_pile_20 : decode cX11_pile 20 = .ok (.aload_n 0, 1) := by decide +kernel
theorem dX11_pile_21 : decode cX11_pile 21 = .ok (.dup, 1) := by decide +kernel
theorem dX11_pile_22 : decode cX11_pile 22 = .ok (.getfield 322, 3) := by decide +kernel
theorem dX11_pile_25 : decode cX11_pile 25 = .ok (.iconst 1, 1) := by decide +kernel
theorem dX11_pile_26 : decode cX11_pile 26 = .ok (.iadd, 1) := by decide +kernel
theorem dX11_pile_27 : decode cX11_pile 27 = .ok (.putfield 322, 3) := by decide +kernel
theorem dX11_pile_30 : decode cX11_pile 30 = .ok (.return_, 1) := by decide +kernel
theorem dX11_e_0 : decode cX11_e 0 = .ok (.aload_n 0, 1) := by decide +kernel
theorem dX11_e_1 : decode cX11_e 1 = .ok (.iconst 0, 1) := by decide +kernel
theorem dX11_e_2 : decode cX11_e 2 = .ok (.putfield 322, 3) := by decide +kernel
theorem dX11_e_5 : decode cX11_e 5 = .ok (.aload_n 0, 1) := by decide +kernel
theorem dX11_e_6 : decode cX11_e 6 = .ok (.iconst 0, 1) := by decide +kernel
theorem dX11_e_7 : decode cX11_e 7 = .ok (.putfield 325, 3) := by decide +kernel
theorem dX11_e_10 : decode cX11_e 10 = .ok (.aload_n 0, 1) := by decide +kernel
theorem dX11_e_11 : decode cX11_e 11 = .ok (.bipush 7, 2) := by decide +kernel
theorem dX11_e_13 : decode cX11_e 13 = .ok (.iconst 0, 1) := by decide +kernel
theorem dX11_e_14 : decode cX11_e 14 = .ok (.invokevirtual 328, 3) := by decide +kernel
theorem dX11_e_17 : decode cX11_e 17 = .ok (.iconst 0, 1) := by decide +kernel
theorem dX11_e_18 : decode cX11_e 18 = .ok (.istore_n 3, 1) := by decide +kernel
theorem dX11_e_19 : decode cX11_e 19 = .ok (.aload_n 0, 1) := by decide +kernel
theorem dX11_e_20 : decode cX11_e 20 = .ok (.invokevirtual 95, 3) := by decide +kernel
theorem dX11_e_23 : decode cX11_e 23 = .ok (.ifCond .eq 33, 3) := by decide +kernel
theorem dX11_e_26 : decode cX11_e 26 = .ok (.aload_n 0, 1) := by decide +kernel
theorem dX11_e_27 : decode cX11_e 27 = .ok (.getfield 322, 3) := by decide +kernel
theorem dX11_e_30 : decode cX11_e 30 = .ok (.ifCond .le 26, 3) := by decide +kernel
theorem dX11_e_33 : decode cX11_e 33 = .ok (.iload_n 3, 1) := by decide +kernel
theorem dX11_e_34 : decode cX11_e 34 = .ok (.iconst 2, 1) := by decide +kernel
theorem dX11_e_35 : decode cX11_e 35 = .ok (.if_icmp .ne 10, 3) := by decide +kernel
theorem dX11_e_38 : decode cX11_e 38 = .ok (.aload_n 0, 1) := by decide +kernel
theorem dX11_e_39 : decode cX11_e 39 = .ok (.invokevirtual 331, 3) := by decide +kernel
theorem dX11_e_42 : decode cX11_e 42 = .ok (.goto 10, 3) := by decide +kernel
theorem dX11_e_45 : decode cX11_e 45 = .ok (.aload_n 0, 1) := by decide +kernel
theorem dX11_e_46 : decode cX11_e 46 = .ok (.iload_n 3, 1) := by decide +kernel
theorem dX11_e_47 : decode cX11_e 47 = .ok (.iload_n 1, 1) := by decide +kernel
theorem dX11_e_48 : decode cX11_e 48 = .ok (.iload_n 2, 1) := by decide +kernel
theorem dX11_e_49 : decode cX11_e 49 = .ok (.invokevirtual 335, 3) := by decide +kernel
theorem dX11_e_52 : decode cX11_e 52 = .ok (.istore_n 3, 1) := by decide +kernel
theorem dX11_e_53 : decode cX11_e 53 = .ok (.goto (-34), 3) := by decide +kernel
theorem dX11_e_56 : decode cX11_e 56 = .ok (.return_, 1) := by decide +kernel
theorem dX11_value_0 : decode cX11_value 0 = .ok (.aload_n 0, 1) := by decide +kernel
theorem dX11_value_1 : decode cX11_value 1 = .ok (.bipush 40, 2) := by decide +kernel
theorem dX11_value_3 : decode cX11_value 3 = .ok (.invokevirtual 85, 3) := by decide +kernel
theorem dX11_value_6 : decode cX11_value 6 = .ok (.ifCond .ne 17, 3) := by decide +kernel
theorem dX11_value_9 : decode cX11_value 9 = .ok (.iload_n 1, 1) := by decide +kernel
theorem dX11_value_10 : decode cX11_value 10 = .ok (.ifCond .ne 63, 3) := by decide +kernel
theorem dX11_value_13 : decode cX11_value 13 = .ok (.aload_n 0, 1) := by decide +kernel
theorem dX11_value_14 : decode cX11_value 14 = .ok (.ldc2_w 49, 3) := by decide +kernel
theorem dX11_value_17 : decode cX11_value 17 = .ok (.invokevirtual 284, 3) := by decide +kernel
theorem dX11_value_20 : decode cX11_value 20 = .ok (.ifCond .eq 53, 3) := by decide +kernel
theorem dX11_value_23 : decode cX11_value 23 = .ok (.aload_n 0, 1) := by decide +kernel
theorem dX11_value_24 : decode cX11_value 24 = .ok (.aload_n 0, 1) := by decide +kernel
theorem dX11_value_25 : decode cX11_value 25 = .ok (.bipush 40, 2) := by decide +kernel
theorem dX11_value_27 : decode cX11_value 27 = .ok (.invokevirtual 85, 3) := by decide +kernel
theorem dX11_value_30 : decode cX11_value 30 = .ok (.ifCond .eq 8, 3) := by decide +kernel
theorem dX11_value_33 : decode cX11_value 33 = .ok (.bipush 6, 2) := by decide +kernel
theorem dX11_value_35 : decode cX11_value 35 = .ok (.goto 4, 3) := by decide +kernel
theorem dX11_value_38 : decode cX11_value 38 = .ok (.iconst 3, 1) := by decide +kernel
theorem dX11_value_39 : decode cX11_value 39 = .ok (.bipush 126, 2) := by decide +kernel
theorem dX11_value_41 : decode cX11_value 41 = .ok (.invokevirtual 328, 3) := by decide +kernel
theorem dX11_value_44 : decode cX11_value 44 = .ok (.aload_n 0, 1) := by decide +kernel
theorem dX11_value_45 : decode cX11_value 45 = .ok (.invokevirtual 88, 3) := by decide +kernel
theorem dX11_value_48 : decode cX11_value 48 = .ok (.aload_n 0, 1) := by decide +kernel
theorem dX11_value_49 : decode cX11_value 49 = .ok (.dup, 1) := by decide +kernel
theorem dX11_value_50 : decode cX11_value 50 = .ok (.getfield 325, 3) := by decide +kernel
theorem dX11_value_53 : decode cX11_value 53 = .ok (.iconst 1, 1) := by decide +kernel
theorem dX11_value_54 : decode cX11_value 54 = .ok (.iadd, 1) := by decide +kernel
theorem dX11_value_55 : decode cX11_value 55 = .ok (.putfield 325, 3) := by decide +kernel
theorem dX11_value_58 : decode cX11_value 58 = .ok (.aload_n 0, 1) := by decide +kernel
theorem dX11_value_59 : decode cX11_value 59 = .ok (.getfield 325, 3) := by decide +kernel
theorem dX11_value_62 : decode cX11_value 62 = .ok (.bipush 8, 2) := by decide +kernel
theorem dX11_value_64 : decode cX11_value 64 = .ok (.if_icmp .lt 7, 3) := by decide +kernel
theorem dX11_value_67 : decode cX11_value 67 = .ok (.aload_n 0, 1) := by decide +kernel
theorem dX11_value_68 : decode cX11_value 68 = .ok (.invokevirtual 92, 3) := by decide +kernel
theorem dX11_value_71 : decode cX11_value 71 = .ok (.iconst 0, 1) := by decide +kernel
theorem dX11_value_72 : decode cX11_value 72 = .ok (.ireturn, 1) := by decide +kernel
theorem dX11_value_73 : decode cX11_value 73 = .ok (.aload_n 0, 1) := by decide +kernel
theorem dX11_value_74 : decode cX11_value 74 = .ok (.getfield 61, 3) := by decide +kernel
theorem dX11_value_77 : decode cX11_value 77 = .ok (.iconst 2, 1) := by decide +kernel
theorem dX11_value_78 : decode cX11_value 78 = .ok (.if_icmp .eq 21, 3) := by decide +kernel
theorem dX11_value_81 : decode cX11_value 81 = .ok (.aload_n 0, 1) := by decide +kernel
theorem dX11_value_82 : decode cX11_value 82 = .ok (.getfield 61, 3) := by decide +kernel
theorem dX11_value_85 : decode cX11_value 85 = .ok (.iconst 3, 1) := by decide +kernel
theorem dX11_value_86 : decode cX11_value 86 = .ok (.if_icmp .ne 17, 3) := by decide +kernel
theorem dX11_value_89 : decode cX11_value 89 = .ok (.aload_n 0, 1) := by decide +kernel
theorem dX11_value_90 : decode cX11_value 90 = .ok (.getfield 71, 3) := by decide +kernel
theorem dX11_value_93 : decode cX11_value 93 = .ok (.invokestatic 27, 3) := by decide +kernel
theorem dX11_value_96 : decode cX11_value 96 = .ok (.ifCond .eq 7, 3) := by decide +kernel
theorem dX11_value_99 : decode cX11_value 99 = .ok (.iconst 1, 1) := by decide +kernel
theorem dX11_value_100 : decode cX11_value 100 = .ok (.goto 4, 3) := by decide +kernel
theorem dX11_value_103 : decode cX11_value 103 = .ok (.iconst 0, 1) := by decide +kernel
theorem dX11_value_104 : decode cX11_value 104 = .ok (.istore 4, 2) := by decide +kernel
theorem dX11_value_106 : decode cX11_value 106 = .ok (.aload_n 0, 1) := by decide +kernel
theorem dX11_value_107 : decode cX11_value 107 = .ok (.getfield 61, 3) := by decide +kernel
theorem dX11_value_110 : decode cX11_value 110 = .ok (.iconst 4, 1) := by decide +kernel
theorem dX11_value_111 : decode cX11_value 111 = .ok (.if_icmp .eq 8, 3) := by decide +kernel
theorem dX11_value_114 : decode cX11_value 114 = .ok (.iload 4, 2) := by decide +kernel
theorem dX11_value_116 : decode cX11_value 116 = .ok (.ifCond .eq 13, 3) := by decide +kernel
theorem dX11_value_119 : decode cX11_value 119 = .ok (.aload_n 0, 1) := by decide +kernel
theorem dX11_value_120 : decode cX11_value 120 = .ok (.getfield 275, 3) := by decide +kernel
theorem dX11_value_123 : decode cX11_value 123 = .ok (.sipush 150, 3) := by decide +kernel
theorem dX11_value_126 : decode cX11_value 126 = .ok (.if_icmp .ne 7, 3) := by decide +kernel
theorem dX11_value_129 : decode cX11_value 129 = .ok (.aload_n 0, 1) := by decide +kernel
theorem dX11_value_130 : decode cX11_value 130 = .ok (.invokevirtual 92, 3) := by decide +kernel
theorem dX11_value_133 : decode cX11_value 133 = .ok (.aload_n 0, 1) := by decide +kernel
theorem dX11_value_134 : decode cX11_value 134 = .ok (.invokevirtual 95, 3) := by decide +kernel
theorem dX11_value_137 : decode cX11_value 137 = .ok (.ifCond .ne 5, 3) := by decide +kernel
theorem dX11_value_140 : decode cX11_value 140 = .ok (.iconst 0, 1) := by decide +kernel
theorem dX11_value_141 : decode cX11_value 141 = .ok (.ireturn, 1) := by decide +kernel
theorem dX11_value_142 : decode cX11_value 142 = .ok (.aload_n 0, 1) := by decide +kernel
theorem dX11_value_143 : decode cX11_value 143 = .ok (.dup, 1) := by decide +kernel
theorem dX11_value_144 : decode cX11_value 144 = .ok (.getfield 275, 3) := by decide +kernel
theorem dX11_value_147 : decode cX11_value 147 = .ok (.iconst 1, 1) := by decide +kernel
theorem dX11_value_148 : decode cX11_value 148 = .ok (.iadd, 1) := by decide +kernel
theorem dX11_value_149 : decode cX11_value 149 = .ok (.putfield 275, 3) := by decide +kernel
theorem dX11_value_152 : decode cX11_value 152 = .ok (.iload 4, 2) := by decide +kernel
theorem dX11_value_154 : decode cX11_value 154 = .ok (.ifCond .eq 12, 3) := by decide +kernel
theorem dX11_value_157 : decode cX11_value 157 = .ok (.aload_n 0, 1) := by decide +kernel
theorem dX11_value_158 : decode cX11_value 158 = .ok (.iload_n 2, 1) := by decide +kernel
theorem dX11_value_159 : decode cX11_value 159 = .ok (.iload_n 3, 1) := by decide +kernel
theorem dX11_value_160 : decode cX11_value 160 = .ok (.invokevirtual 339, 3) := by decide +kernel
theorem dX11_value_163 : decode cX11_value 163 = .ok (.goto 13, 3) := by decide +kernel
theorem dX11_value_166 : decode cX11_value 166 = .ok (.aload_n 0, 1) := by decide +kernel
theorem dX11_value_167 : decode cX11_value 167 = .ok (.bipush 110, 2) := by decide +kernel
theorem dX11_value_169 : decode cX11_value 169 = .ok (.aload_n 0, 1) := by decide +kernel
theorem dX11_value_170 : decode cX11_value 170 = .ok (.getfield 78, 3) := by decide +kernel
theorem dX11_value_173 : decode cX11_value 173 = .ok (.invokevirtual 342, 3) := by decide +kernel
theorem dX11_value_176 : decode cX11_value 176 = .ok (.aload_n 0, 1) := by decide +kernel
theorem dX11_value_177 : decode cX11_value 177 = .ok (.invokevirtual 95, 3) := by decide +kernel
theorem dX11_value_180 : decode cX11_value 180 = .ok (.ifCond .eq 7, 3) := by decide +kernel
theorem dX11_value_183 : decode cX11_value 183 = .ok (.aload_n 0, 1) := by decide +kernel
theorem dX11_value_184 : decode cX11_value 184 = .ok (.invokevirtual 88, 3) := by decide +kernel
theorem dX11_value_187 : decode cX11_value 187 = .ok (.iconst 2, 1) := by decide +kernel
theorem dX11_value_188 : decode cX11_value 188 = .ok (.ireturn, 1) := by decide +kernel
theorem dX11_meant_0 : decode cX11_meant 0 = .ok (.aload_n 0, 1) := by decide +kernel
theorem dX11_meant_1 : decode cX11_meant 1 = .ok (.getfield 61, 3) := by decide +kernel
theorem dX11_meant_4 : decode cX11_meant 4 = .ok (.iconst 3, 1) := by decide +kernel
theorem dX11_meant_5 : decode cX11_meant 5 = .ok (.if_icmp .ne 139, 3) := by decide +kernel
theorem dX11_meant_8 : decode cX11_meant 8 = .ok (.iload_n 2, 1) := by decide +kernel
theorem dX11_meant_9 : decode cX11_meant 9 = .ok (.aload_n 0, 1) := by decide +kernel
theorem dX11_meant_10 : decode cX11_meant 10 = .ok (.getfield 71, 3) := by decide +kernel
theorem dX11_meant_13 : decode cX11_meant 13 = .ok (.ldc2_w 17, 3) := by decide +kernel
theorem dX11_meant_16 : decode cX11_meant 16 = .ok (.lcmp, 1) := by decide +kernel
theorem dX11_meant_17 : decode cX11_meant 17 = .ok (.ifCond .eq 25, 3) := by decide +kernel
theorem dX11_meant_20 : decode cX11_meant 20 = .ok (.aload_n 0, 1) := by decide +kernel
theorem dX11_meant_21 : decode cX11_meant 21 = .ok (.getfield 71, 3) := by decide +kernel
theorem dX11_meant_24 : decode cX11_meant 24 = .ok (.ldc2_w 19, 3) := by decide +kernel
theorem dX11_meant_27 : decode cX11_meant 27 = .ok (.lcmp, 1) := by decide +kernel
theorem dX11_meant_28 : decode cX11_meant 28 = .ok (.ifCond .eq 14, 3) := by decide +kernel
theorem dX11_meant_31 : decode cX11_meant 31 = .ok (.aload_n 0, 1) := by decide +kernel
theorem dX11_meant_32 : decode cX11_meant 32 = .ok (.getfield 71, 3) := by decide +kernel
theorem dX11_meant_35 : decode cX11_meant 35 = .ok (.ldc2_w 21, 3) := by decide +kernel
theorem dX11_meant_38 : decode cX11_meant 38 = .ok (.lcmp, 1) := by decide +kernel
theorem dX11_meant_39 : decode cX11_meant 39 = .ok (.ifCond .ne 7, 3) := by decide +kernel
theorem dX11_meant_42 : decode cX11_meant 42 = .ok (.iconst 1, 1) := by decide +kernel
theorem dX11_meant_43 : decode cX11_meant 43 = .ok (.goto 4, 3) := by decide +kernel
theorem dX11_meant_46 : decode cX11_meant 46 = .ok (.iconst 0, 1) := by decide +kernel
theorem dX11_meant_47 : decode cX11_meant 47 = .ok (.if_icmp .ne 7, 3) := by decide +kernel
theorem dX11_meant_50 : decode cX11_meant 50 = .ok (.iconst 1, 1) := by decide +kernel
theorem dX11_meant_51 : decode cX11_meant 51 = .ok (.goto 4, 3) := by decide +kernel
theorem dX11_meant_54 : decode cX11_meant 54 = .ok (.iconst 0, 1) := by decide +kernel
theorem dX11_meant_55 : decode cX11_meant 55 = .ok (.istore_n 3, 1) := by decide +kernel
theorem dX11_meant_56 : decode cX11_meant 56 = .ok (.iload_n 3, 1) := by decide +kernel
theorem dX11_meant_57 : decode cX11_meant 57 = .ok (.ifCond .eq 77, 3) := by decide +kernel
theorem dX11_meant_60 : decode cX11_meant 60 = .ok (.aload_n 0, 1) := by decide +kernel
theorem dX11_meant_61 : decode cX11_meant 61 = .ok (.aload_n 0, 1) := by decide +kernel
theorem dX11_meant_62 : decode cX11_meant 62 = .ok (.getfield 71, 3) := by decide +kernel
theorem dX11_meant_65 : decode cX11_meant 65 = .ok (.ldc2_w 17, 3) := by decide +kernel
theorem dX11_meant_68 : decode cX11_meant 68 = .ok (.lcmp, 1) := by decide +kernel
theorem dX11_meant_69 : decode cX11_meant 69 = .ok (.ifCond .ne 8, 3) := by decide +kernel
theorem dX11_meant_72 : decode cX11_meant 72 = .ok (.bipush 111, 2) := by decide +kernel
theorem dX11_meant_74 : decode cX11_meant 74 = .ok (.goto 53, 3) := by decide +kernel
theorem dX11_meant_77 : decode cX11_meant 77 = .ok (.aload_n 0, 1) := by decide +kernel
theorem dX11_meant_78 : decode cX11_meant 78 = .ok (.getfield 71, 3) := by decide +kernel
theorem dX11_meant_81 : decode cX11_meant 81 = .ok (.ldc2_w 19, 3) := by decide +kernel
theorem dX11_meant_84 : decode cX11_meant 84 = .ok (.lcmp, 1) := by decide +kernel
theorem dX11_meant_85 : decode cX11_meant 85 = .ok (.ifCond .ne 8, 3) := by decide +kernel
theorem dX11_meant_88 : decode cX11_meant 88 = .ok (.bipush 99, 2) := by decide +kernel
theorem dX11_meant_90 : decode cX11_meant 90 = .ok (.goto 37, 3) := by decide +kernel
theorem dX11_meant_93 : decode cX11_meant 93 = .ok (.aload_n 0, 1) := by decide +kernel
theorem dX11_meant_94 : decode cX11_meant 94 = .ok (.getfield 71, 3) := by decide +kernel
theorem dX11_meant_97 : decode cX11_meant 97 = .ok (.ldc2_w 21, 3) := by decide +kernel
theorem dX11_meant_100 : decode cX11_meant 100 = .ok (.lcmp, 1) := by decide +kernel
theorem dX11_meant_101 : decode cX11_meant 101 = .ok (.ifCond .ne 8, 3) := by decide +kernel
theorem dX11_meant_104 : decode cX11_meant 104 = .ok (.bipush 97, 2) := by decide +kernel
theorem dX11_meant_106 : decode cX11_meant 106 = .ok (.goto 21, 3) := by decide +kernel
theorem dX11_meant_109 : decode cX11_meant 109 = .ok (.aload_n 0, 1) := by decide +kernel
theorem dX11_meant_110 : decode cX11_meant 110 = .ok (.getfield 71, 3) := by decide +kernel
theorem dX11_meant_113 : decode cX11_meant 113 = .ok (.ldc2_w 23, 3) := by decide +kernel
theorem dX11_meant_116 : decode cX11_meant 116 = .ok (.lcmp, 1) := by decide +kernel
theorem dX11_meant_117 : decode cX11_meant 117 = .ok (.ifCond .ne 8, 3) := by decide +kernel
theorem dX11_meant_120 : decode cX11_meant 120 = .ok (.bipush 116, 2) := by decide +kernel
theorem dX11_meant_122 : decode cX11_meant 122 = .ok (.goto 5, 3) := by decide +kernel
theorem dX11_meant_125 : decode cX11_meant 125 = .ok (.bipush 109, 2) := by decide +kernel
theorem dX11_meant_127 : decode cX11_meant 127 = .ok (.iconst 0, 1) := by decide +kernel
theorem dX11_meant_128 : decode cX11_meant 128 = .ok (.invokevirtual 342, 3) := by decide +kernel
theorem dX11_meant_131 : decode cX11_meant 131 = .ok (.goto 12, 3) := by decide +kernel
theorem dX11_meant_134 : decode cX11_meant 134 = .ok (.aload_n 0, 1) := by decide +kernel
theorem dX11_meant_135 : decode cX11_meant 135 = .ok (.iconst 4, 1) := by decide +kernel
theorem dX11_meant_136 : decode cX11_meant 136 = .ok (.aload_n 0, 1) := by decide +kernel
theorem dX11_meant_137 : decode cX11_meant 137 = .ok (.getfield 54, 3) := by decide +kernel
theorem dX11_meant_140 : decode cX11_meant 140 = .ok (.invokevirtual 81, 3) := by decide +kernel
theorem dX11_meant_143 : decode cX11_meant 143 = .ok (.return_, 1) := by decide +kernel
theorem dX11_meant_144 : decode cX11_meant 144 = .ok (.iload_n 2, 1) := by decide +kernel
theorem dX11_meant_145 : decode cX11_meant 145 = .ok (.ifCond .eq 15, 3) := by decide +kernel
theorem dX11_meant_148 : decode cX11_meant 148 = .ok (.aload_n 0, 1) := by decide +kernel
theorem dX11_meant_149 : decode cX11_meant 149 = .ok (.iload_n 1, 1) := by decide +kernel
theorem dX11_meant_150 : decode cX11_meant 150 = .ok (.aload_n 0, 1) := by decide +kernel
theorem dX11_meant_151 : decode cX11_meant 151 = .ok (.getfield 71, 3) := by decide +kernel
theorem dX11_meant_154 : decode cX11_meant 154 = .ok (.invokevirtual 308, 3) := by decide +kernel
theorem dX11_meant_157 : decode cX11_meant 157 = .ok (.goto 12, 3) := by decide +kernel
theorem dX11_meant_160 : decode cX11_meant 160 = .ok (.aload_n 0, 1) := by decide +kernel
theorem dX11_meant_161 : decode cX11_meant 161 = .ok (.iload_n 1, 1) := by decide +kernel
theorem dX11_meant_162 : decode cX11_meant 162 = .ok (.aload_n 0, 1) := by decide +kernel
theorem dX11_meant_163 : decode cX11_meant 163 = .ok (.getfield 71, 3) := by decide +kernel
theorem dX11_meant_166 : decode cX11_meant 166 = .ok (.invokevirtual 312, 3) := by decide +kernel
theorem dX11_meant_169 : decode cX11_meant 169 = .ok (.istore_n 3, 1) := by decide +kernel
theorem dX11_meant_170 : decode cX11_meant 170 = .ok (.iload_n 3, 1) := by decide +kernel
theorem dX11_meant_171 : decode cX11_meant 171 = .ok (.ifCond .ge 15, 3) := by decide +kernel
theorem dX11_meant_174 : decode cX11_meant 174 = .ok (.aload_n 0, 1) := by decide +kernel
theorem dX11_meant_175 : decode cX11_meant 175 = .ok (.iconst 4, 1) := by decide +kernel
theorem dX11_meant_176 : decode cX11_meant 176 = .ok (.aload_n 0, 1) := by decide +kernel
theorem dX11_meant_177 : decode cX11_meant 177 = .ok (.getfield 54, 3) := by decide +kernel
theorem dX11_meant_180 : decode cX11_meant 180 = .ok (.invokevirtual 81, 3) := by decide +kernel
theorem dX11_meant_183 : decode cX11_meant 183 = .ok (.goto 19, 3) := by decide +kernel
theorem dX11_meant_186 : decode cX11_meant 186 = .ok (.aload_n 0, 1) := by decide +kernel
theorem dX11_meant_187 : decode cX11_meant 187 = .ok (.iload_n 2, 1) := by decide +kernel
theorem dX11_meant_188 : decode cX11_meant 188 = .ok (.ifCond .eq 8, 3) := by decide +kernel
theorem dX11_meant_191 : decode cX11_meant 191 = .ok (.bipush 108, 2) := by decide +kernel
theorem dX11_meant_193 : decode cX11_meant 193 = .ok (.goto 5, 3) := by decide +kernel
theorem dX11_meant_196 : decode cX11_meant 196 = .ok (.bipush 112, 2) := by decide +kernel
theorem dX11_meant_198 : decode cX11_meant 198 = .ok (.iload_n 3, 1) := by decide +kernel
theorem dX11_meant_199 : decode cX11_meant 199 = .ok (.invokevirtual 342, 3) := by decide +kernel
theorem dX11_meant_202 : decode cX11_meant 202 = .ok (.return_, 1) := by decide +kernel
theorem dX11_rankHere_0 : decode cX11_rankHere 0 = .ok (.aload_n 0, 1) := by decide +kernel
theorem dX11_rankHere_1 : decode cX11_rankHere 1 = .ok (.bipush 43, 2) := by decide +kernel
theorem dX11_rankHere_3 : decode cX11_rankHere 3 = .ok (.invokevirtual 85, 3) := by decide +kernel
theorem dX11_rankHere_6 : decode cX11_rankHere 6 = .ok (.ifCond .ne 12, 3) := by decide +kernel
theorem dX11_rankHere_9 : decode cX11_rankHere 9 = .ok (.aload_n 0, 1) := by decide +kernel
theorem dX11_rankHere_10 : decode cX11_rankHere 10 = .ok (.bipush 45, 2) := by decide +kernel
theorem dX11_rankHere_12 : decode cX11_rankHere 12 = .ok (.invokevirtual 85, 3) := by decide +kernel
theorem dX11_rankHere_15 : decode cX11_rankHere 15 = .ok (.ifCond .eq 7, 3) := by decide +kernel
theorem dX11_rankHere_18 : decode cX11_rankHere 18 = .ok (.iconst 5, 1) := by decide +kernel
theorem dX11_rankHere_19 : decode cX11_rankHere 19 = .ok (.goto 63, 3) := by decide +kernel
theorem dX11_rankHere_22 : decode cX11_rankHere 22 = .ok (.aload_n 0, 1) := by decide +kernel
theorem dX11_rankHere_23 : decode cX11_rankHere 23 = .ok (.bipush 60, 2) := by decide +kernel
theorem dX11_rankHere_25 : decode cX11_rankHere 25 = .ok (.invokevirtual 85, 3) := by decide +kernel
theorem dX11_rankHere_28 : decode cX11_rankHere 28 = .ok (.ifCond .ne 21, 3) := by decide +kernel
theorem dX11_rankHere_31 : decode cX11_rankHere 31 = .ok (.aload_n 0, 1) := by decide +kernel
theorem dX11_rankHere_32 : decode cX11_rankHere 32 = .ok (.bipush 62, 2) := by decide +kernel
theorem dX11_rankHere_34 : decode cX11_rankHere 34 = .ok (.invokevirtual 85, 3) := by decide +kernel
theorem dX11_rankHere_37 : decode cX11_rankHere 37 = .ok (.ifCond .ne 12, 3) := by decide +kernel
theorem dX11_rankHere_40 : decode cX11_rankHere 40 = .ok (.aload_n 0, 1) := by decide +kernel
theorem dX11_rankHere_41 : decode cX11_rankHere 41 = .ok (.bipush 61, 2) := by decide +kernel
theorem dX11_rankHere_43 : decode cX11_rankHere 43 = .ok (.invokevirtual 85, 3) := by decide +kernel
theorem dX11_rankHere_46 : decode cX11_rankHere 46 = .ok (.ifCond .eq 7, 3) := by decide +kernel
theorem dX11_rankHere_49 : decode cX11_rankHere 49 = .ok (.iconst 4, 1) := by decide +kernel
theorem dX11_rankHere_50 : decode cX11_rankHere 50 = .ok (.goto 32, 3) := by decide +kernel
theorem dX11_rankHere_53 : decode cX11_rankHere 53 = .ok (.aload_n 0, 1) := by decide +kernel
theorem dX11_rankHere_54 : decode cX11_rankHere 54 = .ok (.ldc2_w 47, 3) := by decide +kernel
theorem dX11_rankHere_57 : decode cX11_rankHere 57 = .ok (.invokevirtual 284, 3) := by decide +kernel
theorem dX11_rankHere_60 : decode cX11_rankHere 60 = .ok (.ifCond .eq 7, 3) := by decide +kernel
theorem dX11_rankHere_63 : decode cX11_rankHere 63 = .ok (.iconst 2, 1) := by decide +kernel
theorem dX11_rankHere_64 : decode cX11_rankHere 64 = .ok (.goto 18, 3) := by decide +kernel
theorem dX11_rankHere_67 : decode cX11_rankHere 67 = .ok (.aload_n 0, 1) := by decide +kernel
theorem dX11_rankHere_68 : decode cX11_rankHere 68 = .ok (.ldc2_w 45, 3) := by decide +kernel
theorem dX11_rankHere_71 : decode cX11_rankHere 71 = .ok (.invokevirtual 284, 3) := by decide +kernel
theorem dX11_rankHere_74 : decode cX11_rankHere 74 = .ok (.ifCond .eq 7, 3) := by decide +kernel
theorem dX11_rankHere_77 : decode cX11_rankHere 77 = .ok (.iconst 1, 1) := by decide +kernel
theorem dX11_rankHere_78 : decode cX11_rankHere 78 = .ok (.goto 4, 3) := by decide +kernel
theorem dX11_rankHere_81 : decode cX11_rankHere 81 = .ok (.iconst 0, 1) := by decide +kernel
theorem dX11_rankHere_82 : decode cX11_rankHere 82 = .ok (.ireturn, 1) := by decide +kernel
theorem dX11_behind_0 : decode cX11_behind 0 = .ok (.aload_n 0, 1) := by decide +kernel
theorem dX11_behind_1 : decode cX11_behind 1 = .ok (.invokevirtual 345, 3) := by decide +kernel
theorem dX11_behind_4 : decode cX11_behind 4 = .ok (.istore_n 1, 1) := by decide +kernel
theorem dX11_behind_5 : decode cX11_behind 5 = .ok (.aload_n 0, 1) := by decide +kernel
theorem dX11_behind_6 : decode cX11_behind 6 = .ok (.getfield 176, 3) := by decide +kernel
theorem dX11_behind_9 : decode cX11_behind 9 = .ok (.aload_n 0, 1) := by decide +kernel
theorem dX11_behind_10 : decode cX11_behind 10 = .ok (.getfield 322, 3) := by decide +kernel
theorem dX11_behind_13 : decode cX11_behind 13 = .ok (.iconst 1, 1) := by decide +kernel
theorem dX11_behind_14 : decode cX11_behind 14 = .ok (.isub, 1) := by decide +kernel
theorem dX11_behind_15 : decode cX11_behind 15 = .ok (.iaload, 1) := by decide +kernel
theorem dX11_behind_16 : decode cX11_behind 16 = .ok (.iconst 5, 1) := by decide +kernel
theorem dX11_behind_17 : decode cX11_behind 17 = .ok (.if_icmp .gt 88, 3) := by decide +kernel
theorem dX11_behind_20 : decode cX11_behind 20 = .ok (.aload_n 0, 1) := by decide +kernel
theorem dX11_behind_21 : decode cX11_behind 21 = .ok (.getfield 176, 3) := by decide +kernel
theorem dX11_behind_24 : decode cX11_behind 24 = .ok (.aload_n 0, 1) := by decide +kernel
theorem dX11_behind_25 : decode cX11_behind 25 = .ok (.getfield 322, 3) := by decide +kernel
theorem dX11_behind_28 : decode cX11_behind 28 = .ok (.iconst 1, 1) := by decide +kernel
theorem dX11_behind_29 : decode cX11_behind 29 = .ok (.isub, 1) := by decide +kernel
theorem dX11_behind_30 : decode cX11_behind 30 = .ok (.iaload, 1) := by decide +kernel
theorem dX11_behind_31 : decode cX11_behind 31 = .ok (.iload_n 1, 1) := by decide +kernel
theorem dX11_behind_32 : decode cX11_behind 32 = .ok (.if_icmp .lt 73, 3) := by decide +kernel
theorem dX11_behind_35 : decode cX11_behind 35 = .ok (.aload_n 0, 1) := by decide +kernel
theorem dX11_behind_36 : decode cX11_behind 36 = .ok (.getfield 176, 3) := by decide +kernel
theorem dX11_behind_39 : decode cX11_behind 39 = .ok (.aload_n 0, 1) := by decide +kernel
theorem dX11_behind_40 : decode cX11_behind 40 = .ok (.getfield 322, 3) := by decide +kernel
theorem dX11_behind_43 : decode cX11_behind 43 = .ok (.iconst 1, 1) := by decide +kernel
theorem dX11_behind_44 : decode cX11_behind 44 = .ok (.isub, 1) := by decide +kernel
theorem dX11_behind_45 : decode cX11_behind 45 = .ok (.iaload, 1) := by decide +kernel
theorem dX11_behind_46 : decode cX11_behind 46 = .ok (.istore_n 2, 1) := by decide +kernel
theorem dX11_behind_47 : decode cX11_behind 47 = .ok (.iload_n 1, 1) := by decide +kernel
theorem dX11_behind_48 : decode cX11_behind 48 = .ok (.iconst 4, 1) := by decide +kernel
theorem dX11_behind_49 : decode cX11_behind 49 = .ok (.if_icmp .ne 14, 3) := by decide +kernel
theorem dX11_behind_52 : decode cX11_behind 52 = .ok (.iload_n 2, 1) := by decide +kernel
theorem dX11_behind_53 : decode cX11_behind 53 = .ok (.iconst 4, 1) := by decide +kernel
theorem dX11_behind_54 : decode cX11_behind 54 = .ok (.if_icmp .ne 9, 3) := by decide +kernel
theorem dX11_behind_57 : decode cX11_behind 57 = .ok (.aload_n 0, 1) := by decide +kernel
theorem dX11_behind_58 : decode cX11_behind 58 = .ok (.invokevirtual 92, 3) := by decide +kernel
theorem dX11_behind_61 : decode cX11_behind 61 = .ok (.iconst 2, 1) := by decide +kernel
theorem dX11_behind_62 : decode cX11_behind 62 = .ok (.ireturn, 1) := by decide +kernel
theorem dX11_behind_63 : decode cX11_behind 63 = .ok (.aload_n 0, 1) := by decide +kernel
theorem dX11_behind_64 : decode cX11_behind 64 = .ok (.dup, 1) := by decide +kernel
theorem dX11_behind_65 : decode cX11_behind 65 = .ok (.getfield 322, 3) := by decide +kernel
theorem dX11_behind_68 : decode cX11_behind 68 = .ok (.iconst 1, 1) := by decide +kernel
theorem dX11_behind_69 : decode cX11_behind 69 = .ok (.isub, 1) := by decide +kernel
theorem dX11_behind_70 : decode cX11_behind 70 = .ok (.putfield 322, 3) := by decide +kernel
theorem dX11_behind_73 : decode cX11_behind 73 = .ok (.iload_n 2, 1) := by decide +kernel
theorem dX11_behind_74 : decode cX11_behind 74 = .ok (.iconst 3, 1) := by decide +kernel
theorem dX11_behind_75 : decode cX11_behind 75 = .ok (.if_icmp .ne 13, 3) := by decide +kernel
theorem dX11_behind_78 : decode cX11_behind 78 = .ok (.aload_n 0, 1) := by decide +kernel
theorem dX11_behind_79 : decode cX11_behind 79 = .ok (.dup, 1) := by decide +kernel
theorem dX11_behind_80 : decode cX11_behind 80 = .ok (.getfield 325, 3) := by decide +kernel
theorem dX11_behind_83 : decode cX11_behind 83 = .ok (.iconst 1, 1) := by decide +kernel
theorem dX11_behind_84 : decode cX11_behind 84 = .ok (.isub, 1) := by decide +kernel
theorem dX11_behind_85 : decode cX11_behind 85 = .ok (.putfield 325, 3) := by decide +kernel
theorem dX11_behind_88 : decode cX11_behind 88 = .ok (.aload_n 0, 1) := by decide +kernel
theorem dX11_behind_89 : decode cX11_behind 89 = .ok (.aload_n 0, 1) := by decide +kernel
theorem dX11_behind_90 : decode cX11_behind 90 = .ok (.getfield 179, 3) := by decide +kernel
theorem dX11_behind_93 : decode cX11_behind 93 = .ok (.aload_n 0, 1) := by decide +kernel
theorem dX11_behind_94 : decode cX11_behind 94 = .ok (.getfield 322, 3) := by decide +kernel
theorem dX11_behind_97 : decode cX11_behind 97 = .ok (.iaload, 1) := by decide +kernel
theorem dX11_behind_98 : decode cX11_behind 98 = .ok (.iconst 0, 1) := by decide +kernel
theorem dX11_behind_99 : decode cX11_behind 99 = .ok (.invokevirtual 342, 3) := by decide +kernel
theorem dX11_behind_102 : decode cX11_behind 102 = .ok (.goto (-97), 3) := by decide +kernel
theorem dX11_behind_105 : decode cX11_behind 105 = .ok (.iload_n 1, 1) := by decide +kernel
theorem dX11_behind_106 : decode cX11_behind 106 = .ok (.ifCond .le 51, 3) := by decide +kernel
theorem dX11_behind_109 : decode cX11_behind 109 = .ok (.aload_n 0, 1) := by decide +kernel
theorem dX11_behind_110 : decode cX11_behind 110 = .ok (.iload_n 1, 1) := by decide +kernel
theorem dX11_behind_111 : decode cX11_behind 111 = .ok (.iload_n 1, 1) := by decide +kernel
theorem dX11_behind_112 : decode cX11_behind 112 = .ok (.iconst 1, 1) := by decide +kernel
theorem dX11_behind_113 : decode cX11_behind 113 = .ok (.if_icmp .ne 8, 3) := by decide +kernel
theorem dX11_behind_116 : decode cX11_behind 116 = .ok (.bipush 124, 2) := by decide +kernel
theorem dX11_behind_118 : decode cX11_behind 118 = .ok (.goto 21, 3) := by decide +kernel
theorem dX11_behind_121 : decode cX11_behind 121 = .ok (.iload_n 1, 1) := by decide +kernel
theorem dX11_behind_122 : decode cX11_behind 122 = .ok (.iconst 2, 1) := by decide +kernel
theorem dX11_behind_123 : decode cX11_behind 123 = .ok (.if_icmp .ne 8, 3) := by decide +kernel
theorem dX11_behind_126 : decode cX11_behind 126 = .ok (.bipush 38, 2) := by decide +kernel
theorem dX11_behind_128 : decode cX11_behind 128 = .ok (.goto 11, 3) := by decide +kernel
theorem dX11_behind_131 : decode cX11_behind 131 = .ok (.aload_n 0, 1) := by decide +kernel
theorem dX11_behind_132 : decode cX11_behind 132 = .ok (.aload_n 0, 1) := by decide +kernel
theorem dX11_behind_133 : decode cX11_behind 133 = .ok (.getfield 54, 3) := by decide +kernel
theorem dX11_behind_136 : decode cX11_behind 136 = .ok (.invokevirtual 57, 3) := by decide +kernel
theorem dX11_behind_139 : decode cX11_behind 139 = .ok (.invokevirtual 328, 3) := by decide +kernel
theorem dX11_behind_142 : decode cX11_behind 142 = .ok (.aload_n 0, 1) := by decide +kernel
theorem dX11_behind_143 : decode cX11_behind 143 = .ok (.invokevirtual 88, 3) := by decide +kernel
theorem dX11_behind_146 : decode cX11_behind 146 = .ok (.iload_n 1, 1) := by decide +kernel
theorem dX11_behind_147 : decode cX11_behind 147 = .ok (.iconst 3, 1) := by decide +kernel
theorem dX11_behind_148 : decode cX11_behind 148 = .ok (.if_icmp .ge 7, 3) := by decide +kernel
theorem dX11_behind_151 : decode cX11_behind 151 = .ok (.iconst 0, 1) := by decide +kernel
theorem dX11_behind_152 : decode cX11_behind 152 = .ok (.goto 4, 3) := by decide +kernel
theorem dX11_behind_155 : decode cX11_behind 155 = .ok (.iconst 1, 1) := by decide +kernel
theorem dX11_behind_156 : decode cX11_behind 156 = .ok (.ireturn, 1) := by decide +kernel
theorem dX11_behind_157 : decode cX11_behind 157 = .ok (.aload_n 0, 1) := by decide +kernel
theorem dX11_behind_158 : decode cX11_behind 158 = .ok (.dup, 1) := by decide +kernel
theorem dX11_behind_159 : decode cX11_behind 159 = .ok (.getfield 322, 3) := by decide +kernel
theorem dX11_behind_162 : decode cX11_behind 162 = .ok (.iconst 1, 1) := by decide +kernel
theorem dX11_behind_163 : decode cX11_behind 163 = .ok (.isub, 1) := by decide +kernel
theorem dX11_behind_164 : decode cX11_behind 164 = .ok (.putfield 322, 3) := by decide +kernel
theorem dX11_behind_167 : decode cX11_behind 167 = .ok (.aload_n 0, 1) := by decide +kernel
theorem dX11_behind_168 : decode cX11_behind 168 = .ok (.getfield 176, 3) := by decide +kernel
theorem dX11_behind_171 : decode cX11_behind 171 = .ok (.aload_n 0, 1) := by decide +kernel
theorem dX11_behind_172 : decode cX11_behind 172 = .ok (.getfield 322, 3) := by decide +kernel
theorem dX11_behind_175 : decode cX11_behind 175 = .ok (.iaload, 1) := by decide +kernel
theorem dX11_behind_176 : decode cX11_behind 176 = .ok (.bipush 6, 2) := by decide +kernel
theorem dX11_behind_178 : decode cX11_behind 178 = .ok (.if_icmp .ne 19, 3) := by decide +kernel
theorem dX11_behind_181 : decode cX11_behind 181 = .ok (.aload_n 0, 1) := by decide +kernel
theorem dX11_behind_182 : decode cX11_behind 182 = .ok (.dup, 1) := by decide +kernel
theorem dX11_behind_183 : decode cX11_behind 183 = .ok (.getfield 325, 3) := by decide +kernel
theorem dX11_behind_186 : decode cX11_behind 186 = .ok (.iconst 1, 1) := by decide +kernel
theorem dX11_behind_187 : decode cX11_behind 187 = .ok (.isub, 1) := by decide +kernel
theorem dX11_behind_188 : decode cX11_behind 188 = .ok (.putfield 325, 3) := by decide +kernel
theorem dX11_behind_191 : decode cX11_behind 191 = .ok (.aload_n 0, 1) := by decide +kernel
theorem dX11_behind_192 : decode cX11_behind 192 = .ok (.bipush 41, 2) := by decide +kernel
theorem dX11_behind_194 : decode cX11_behind 194 = .ok (.invokevirtual 291, 3) := by decide +kernel
theorem dX11_behind_197 : decode cX11_behind 197 = .ok (.iconst 2, 1) := by decide +kernel
theorem dX11_behind_198 : decode cX11_behind 198 = .ok (.ireturn, 1) := by decide +kernel
theorem dX11_fault_0 : decode cX11_fault 0 = .ok (.iload_n 1, 1) := by decide +kernel
theorem dX11_fault_1 : decode cX11_fault 1 = .ok (.ifCond .ne 10, 3) := by decide +kernel
theorem dX11_fault_4 : decode cX11_fault 4 = .ok (.aload_n 0, 1) := by decide +kernel
theorem dX11_fault_5 : decode cX11_fault 5 = .ok (.getfield 11, 3) := by decide +kernel
theorem dX11_fault_8 : decode cX11_fault 8 = .ok (.goto 16, 3) := by decide +kernel
theorem dX11_fault_11 : decode cX11_fault 11 = .ok (.iload_n 1, 1) := by decide +kernel
theorem dX11_fault_12 : decode cX11_fault 12 = .ok (.iconst 1, 1) := by decide +kernel
theorem dX11_fault_13 : decode cX11_fault 13 = .ok (.if_icmp .ne 10, 3) := by decide +kernel
theorem dX11_fault_16 : decode cX11_fault 16 = .ok (.aload_n 0, 1) := by decide +kernel
theorem dX11_fault_17 : decode cX11_fault 17 = .ok (.getfield 14, 3) := by decide +kernel
theorem dX11_fault_20 : decode cX11_fault 20 = .ok (.goto 4, 3) := by decide +kernel
theorem dX11_fault_23 : decode cX11_fault 23 = .ok (.iconst (-1), 1) := by decide +kernel
theorem dX11_fault_24 : decode cX11_fault 24 = .ok (.ireturn, 1) := by decide +kernel
theorem dX11_spot_0 : decode cX11_spot 0 = .ok (.iload_n 1, 1) := by decide +kernel
theorem dX11_spot_1 : decode cX11_spot 1 = .ok (.ifCond .lt 28, 3) := by decide +kernel
theorem dX11_spot_4 : decode cX11_spot 4 = .ok (.iload_n 1, 1) := by decide +kernel
theorem dX11_spot_5 : decode cX11_spot 5 = .ok (.iconst 4, 1) := by decide +kernel
theorem dX11_spot_6 : decode cX11_spot 6 = .ok (.if_icmp .ge 23, 3) := by decide +kernel
theorem dX11_spot_9 : decode cX11_spot 9 = .ok (.aload_n 0, 1) := by decide +kernel
theorem dX11_spot_10 : decode cX11_spot 10 = .ok (.getfield 114, 3) := by decide +kernel
theorem dX11_spot_13 : decode cX11_spot 13 = .ok (.iload_n 1, 1) := by decide +kernel
theorem dX11_spot_14 : decode cX11_spot 14 = .ok (.baload, 1) := by decide +kernel
theorem dX11_spot_15 : decode cX11_spot 15 = .ok (.ifCond .eq 14, 3) := by decide +kernel
theorem dX11_spot_18 : decode cX11_spot 18 = .ok (.iload_n 2, 1) := by decide +kernel
theorem dX11_spot_19 : decode cX11_spot 19 = .ok (.iconst 1, 1) := by decide +kernel
theorem dX11_spot_20 : decode cX11_spot 20 = .ok (.if_icmp .lt 9, 3) := by decide +kernel
theorem dX11_spot_23 : decode cX11_spot 23 = .ok (.iload_n 2, 1) := by decide +kernel
theorem dX11_spot_24 : decode cX11_spot 24 = .ok (.bipush 8, 2) := by decide +kernel
theorem dX11_spot_26 : decode cX11_spot 26 = .ok (.if_icmp .le 5, 3) := by decide +kernel
theorem dX11_spot_29 : decode cX11_spot 29 = .ok (.iconst (-1), 1) := by decide +kernel
theorem dX11_spot_30 : decode cX11_spot 30 = .ok (.ireturn, 1) := by decide +kernel
theorem dX11_spot_31 : decode cX11_spot 31 = .ok (.bipush 8, 2) := by decide +kernel
theorem dX11_spot_33 : decode cX11_spot 33 = .ok (.aload_n 0, 1) := by decide +kernel
theorem dX11_spot_34 : decode cX11_spot 34 = .ok (.getfield 107, 3) := by decide +kernel
theorem dX11_spot_37 : decode cX11_spot 37 = .ok (.iload_n 1, 1) := by decide +kernel
theorem dX11_spot_38 : decode cX11_spot 38 = .ok (.iaload, 1) := by decide +kernel
theorem dX11_spot_39 : decode cX11_spot 39 = .ok (.imul, 1) := by decide +kernel
theorem dX11_spot_40 : decode cX11_spot 40 = .ok (.iload_n 2, 1) := by decide +kernel
theorem dX11_spot_41 : decode cX11_spot 41 = .ok (.iadd, 1) := by decide +kernel
theorem dX11_spot_42 : decode cX11_spot 42 = .ok (.iconst 1, 1) := by decide +kernel
theorem dX11_spot_43 : decode cX11_spot 43 = .ok (.isub, 1) := by decide +kernel
theorem dX11_spot_44 : decode cX11_spot 44 = .ok (.istore_n 3, 1) := by decide +kernel
theorem dX11_spot_45 : decode cX11_spot 45 = .ok (.aload_n 0, 1) := by decide +kernel
theorem dX11_spot_46 : decode cX11_spot 46 = .ok (.getfield 118, 3) := by decide +kernel
theorem dX11_spot_49 : decode cX11_spot 49 = .ok (.iload_n 3, 1) := by decide +kernel
theorem dX11_spot_50 : decode cX11_spot 50 = .ok (.baload, 1) := by decide +kernel
theorem dX11_spot_51 : decode cX11_spot 51 = .ok (.ifCond .eq 7, 3) := by decide +kernel
theorem dX11_spot_54 : decode cX11_spot 54 = .ok (.iload_n 3, 1) := by decide +kernel
theorem dX11_spot_55 : decode cX11_spot 55 = .ok (.goto 4, 3) := by decide +kernel
theorem dX11_spot_58 : decode cX11_spot 58 = .ok (.iconst (-1), 1) := by decide +kernel
theorem dX11_spot_59 : decode cX11_spot 59 = .ok (.ireturn, 1) := by decide +kernel
theorem dX11_minutesOf_0 : decode cX11_minutesOf 0 = .ok (.iload_n 1, 1) := by decide +kernel
theorem dX11_minutesOf_1 : decode cX11_minutesOf 1 = .ok (.ifCond .lt 12, 3) := by decide +kernel
theorem dX11_minutesOf_4 : decode cX11_minutesOf 4 = .ok (.aload_n 0, 1) := by decide +kernel
theorem dX11_minutesOf_5 : decode cX11_minutesOf 5 = .ok (.getfield 136, 3) := by decide +kernel
theorem dX11_minutesOf_8 : decode cX11_minutesOf 8 = .ok (.iload_n 1, 1) := by decide +kernel
theorem dX11_minutesOf_9 : decode cX11_minutesOf 9 = .ok (.iaload, 1) := by decide +kernel
theorem dX11_minutesOf_10 : decode cX11_minutesOf 10 = .ok (.ifCond .ne 8, 3) := by decide +kernel
theorem dX11_minutesOf_13 : decode cX11_minutesOf 13 = .ok (.bipush 10, 2) := by decide +kernel
theorem dX11_minutesOf_15 : decode cX11_minutesOf 15 = .ok (.goto 9, 3) := by decide +kernel
theorem dX11_minutesOf_18 : decode cX11_minutesOf 18 = .ok (.aload_n 0, 1) := by decide +kernel
theorem dX11_minutesOf_19 : decode cX11_minutesOf 19 = .ok (.getfield 136, 3) := by decide +kernel
theorem dX11_minutesOf_22 : decode cX11_minutesOf 22 = .ok (.iload_n 1, 1) := by decide +kernel
theorem dX11_minutesOf_23 : decode cX11_minutesOf 23 = .ok (.iaload, 1) := by decide +kernel
theorem dX11_minutesOf_24 : decode cX11_minutesOf 24 = .ok (.ireturn, 1) := by decide +kernel
theorem dX11_grade_0 : decode cX11_grade 0 = .ok (.aload_n 0, 1) := by decide +kernel
theorem dX11_grade_1 : decode cX11_grade 1 = .ok (.iload_n 1, 1) := by decide +kernel
theorem dX11_grade_2 : decode cX11_grade 2 = .ok (.iload_n 2, 1) := by decide +kernel
theorem dX11_grade_3 : decode cX11_grade 3 = .ok (.invokevirtual 348, 3) := by decide +kernel
theorem dX11_grade_6 : decode cX11_grade 6 = .ok (.istore 4, 2) := by decide +kernel
theorem dX11_grade_8 : decode cX11_grade 8 = .ok (.iload 4, 2) := by decide +kernel
theorem dX11_grade_10 : decode cX11_grade 10 = .ok (.ifCond .ge 5, 3) := by decide +kernel
theorem dX11_grade_13 : decode cX11_grade 13 = .ok (.iconst (-1), 1) := by decide +kernel
theorem dX11_grade_14 : decode cX11_grade 14 = .ok (.ireturn, 1) := by decide +kernel
theorem dX11_grade_15 : decode cX11_grade 15 = .ok (.iload_n 3, 1) := by decide +kernel
theorem dX11_grade_16 : decode cX11_grade 16 = .ok (.tableswitch 63 0 3 #[32, 40, 48, 56], 32) := by decide +kernel
theorem dX11_grade_48 : decode cX11_grade 48 = .ok (.aload_n 0, 1) := by decide +kernel
theorem dX11_grade_49 : decode cX11_grade 49 = .ok (.getfield 121, 3) := by decide +kernel
theorem dX11_grade_52 : decode cX11_grade 52 = .ok (.iload 4, 2) := by decide +kernel
theorem dX11_grade_54 : decode cX11_grade 54 = .ok (.iaload, 1) := by decide +kernel
theorem dX11_grade_55 : decode cX11_grade 55 = .ok (.ireturn, 1) := by decide +kernel
theorem dX11_grade_56 : decode cX11_grade 56 = .ok (.aload_n 0, 1) := by decide +kernel
theorem dX11_grade_57 : decode cX11_grade 57 = .ok (.getfield 127, 3) := by decide +kernel
theorem dX11_grade_60 : decode cX11_grade 60 = .ok (.iload 4, 2) := by decide +kernel
theorem dX11_grade_62 : decode cX11_grade 62 = .ok (.iaload, 1) := by decide +kernel
theorem dX11_grade_63 : decode cX11_grade 63 = .ok (.ireturn, 1) := by decide +kernel
theorem dX11_grade_64 : decode cX11_grade 64 = .ok (.aload_n 0, 1) := by decide +kernel
theorem dX11_grade_65 : decode cX11_grade 65 = .ok (.getfield 133, 3) := by decide +kernel
theorem dX11_grade_68 : decode cX11_grade 68 = .ok (.iload 4, 2) := by decide +kernel
theorem dX11_grade_70 : decode cX11_grade 70 = .ok (.iaload, 1) := by decide +kernel
theorem dX11_grade_71 : decode cX11_grade 71 = .ok (.ireturn, 1) := by decide +kernel
theorem dX11_grade_72 : decode cX11_grade 72 = .ok (.aload_n 0, 1) := by decide +kernel
theorem dX11_grade_73 : decode cX11_grade 73 = .ok (.iload 4, 2) := by decide +kernel
theorem dX11_grade_75 : decode cX11_grade 75 = .ok (.invokevirtual 351, 3) := by decide +kernel
theorem dX11_grade_78 : decode cX11_grade 78 = .ok (.ireturn, 1) := by decide +kernel
theorem dX11_grade_79 : decode cX11_grade 79 = .ok (.iload_n 3, 1) := by decide +kernel
theorem dX11_grade_80 : decode cX11_grade 80 = .ok (.bipush 10, 2) := by decide +kernel
theorem dX11_grade_82 : decode cX11_grade 82 = .ok (.if_icmp .lt 35, 3) := by decide +kernel
theorem dX11_grade_85 : decode cX11_grade 85 = .ok (.iload_n 3, 1) := by decide +kernel
theorem dX11_grade_86 : decode cX11_grade 86 = .ok (.bipush 10, 2) := by decide +kernel
theorem dX11_grade_88 : decode cX11_grade 88 = .ok (.isub, 1) := by decide +kernel
