theorem dX7_init_0 : decode cX7_init 0 = .ok (.aload_n 0, 1) := by decide +kernel
theorem dX7_init_1 : decode cX7_init 1 = .ok (.invokespecial 1, 3) := by decide +kernel
theorem dX7_init_4 : decode cX7_init 4 = .ok (.aload_n 0, 1) := by decide +kernel
theorem dX7_init_5 : decode cX7_init 5 = .ok (.iconst 0, 1) := by decide +kernel
theorem dX7_init_6 : decode cX7_init 6 = .ok (.putfield 7, 3) := by decide +kernel
theorem dX7_init_9 : decode cX7_init 9 = .ok (.aload_n 0, 1) := by decide +kernel
theorem dX7_init_10 : decode cX7_init 10 = .ok (.iconst 0, 1) := by decide +kernel
theorem dX7_init_11 : decode cX7_init 11 = .ok (.putfield 13, 3) := by decide +kernel
theorem dX7_init_14 : decode cX7_init 14 = .ok (.aload_n 0, 1) := by decide +kernel
theorem dX7_init_15 : decode cX7_init 15 = .ok (.iconst (-1), 1) := by decide +kernel
theorem dX7_init_16 : decode cX7_init 16 = .ok (.putfield 16, 3) := by decide +kernel
theorem dX7_init_19 : decode cX7_init 19 = .ok (.aload_n 0, 1) := by decide +kernel
theorem dX7_init_20 : decode cX7_init 20 = .ok (.iconst 0, 1) := by decide +kernel
theorem dX7_init_21 : decode cX7_init 21 = .ok (.putfield 19, 3) := by decide +kernel
theorem dX7_init_24 : decode cX7_init 24 = .ok (.aload_n 0, 1) := by decide +kernel
theorem dX7_init_25 : decode cX7_init 25 = .ok (.iconst 4, 1) := by decide +kernel
theorem dX7_init_26 : decode cX7_init 26 = .ok (.newarray .int, 2) := by decide +kernel
theorem dX7_init_28 : decode cX7_init 28 = .ok (.putfield 22, 3) := by decide +kernel
theorem dX7_init_31 : decode cX7_init 31 = .ok (.aload_n 0, 1) := by decide +kernel
theorem dX7_init_32 : decode cX7_init 32 = .ok (.sipush 144, 3) := by decide +kernel
theorem dX7_init_35 : decode cX7_init 35 = .ok (.newarray .int, 2) := by decide +kernel
theorem dX7_init_37 : decode cX7_init 37 = .ok (.putfield 26, 3) := by decide +kernel
theorem dX7_init_40 : decode cX7_init 40 = .ok (.aload_n 0, 1) := by decide +kernel
theorem dX7_init_41 : decode cX7_init 41 = .ok (.iconst 4, 1) := by decide +kernel
theorem dX7_init_42 : decode cX7_init 42 = .ok (.newarray .int, 2) := by decide +kernel
theorem dX7_init_44 : decode cX7_init 44 = .ok (.putfield 29, 3) := by decide +kernel
theorem dX7_init_47 : decode cX7_init 47 = .ok (.aload_n 0, 1) := by decide +kernel
theorem dX7_init_48 : decode cX7_init 48 = .ok (.iconst 4, 1) := by decide +kernel
theorem dX7_init_49 : decode cX7_init 49 = .ok (.newarray .int, 2) := by decide +kernel
theorem dX7_init_51 : decode cX7_init 51 = .ok (.putfield 32, 3) := by decide +kernel
theorem dX7_init_54 : decode cX7_init 54 = .ok (.aload_n 0, 1) := by decide +kernel
theorem dX7_init_55 : decode cX7_init 55 = .ok (.iconst 4, 1) := by decide +kernel
theorem dX7_init_56 : decode cX7_init 56 = .ok (.newarray .int, 2) := by decide +kernel
theorem dX7_init_58 : decode cX7_init 58 = .ok (.putfield 35, 3) := by decide +kernel
theorem dX7_init_61 : decode cX7_init 61 = .ok (.aload_n 0, 1) := by decide +kernel
theorem dX7_init_62 : decode cX7_init 62 = .ok (.iconst 4, 1) := by decide +kernel
theorem dX7_init_63 : decode cX7_init 63 = .ok (.newarray .int, 2) := by decide +kernel
theorem dX7_init_65 : decode cX7_init 65 = .ok (.putfield 38, 3) := by decide +kernel
theorem dX7_init_68 : decode cX7_init 68 = .ok (.aload_n 0, 1) := by decide +kernel
theorem dX7_init_69 : decode cX7_init 69 = .ok (.iconst 4, 1) := by decide +kernel
theorem dX7_init_70 : decode cX7_init 70 = .ok (.newarray .int, 2) := by decide +kernel
theorem dX7_init_72 : decode cX7_init 72 = .ok (.putfield 41, 3) := by decide +kernel
theorem dX7_init_75 : decode cX7_init 75 = .ok (.aload_n 0, 1) := by decide +kernel
theorem dX7_init_76 : decode cX7_init 76 = .ok (.iconst 0, 1) := by decide +kernel
theorem dX7_init_77 : decode cX7_init 77 = .ok (.putfield 44, 3) := by decide +kernel
theorem dX7_init_80 : decode cX7_init 80 = .ok (.aload_n 0, 1) := by decide +kernel
theorem dX7_init_81 : decode cX7_init 81 = .ok (.bipush 60, 2) := by decide +kernel
theorem dX7_init_83 : decode cX7_init 83 = .ok (.newarray .int, 2) := by decide +kernel
theorem dX7_init_85 : decode cX7_init 85 = .ok (.putfield 47, 3) := by decide +kernel
theorem dX7_init_88 : decode cX7_init 88 = .ok (.aload_n 0, 1) := by decide +kernel
theorem dX7_init_89 : decode cX7_init 89 = .ok (.bipush 60, 2) := by decide +kernel
theorem dX7_init_91 : decode cX7_init 91 = .ok (.newarray .int, 2) := by decide +kernel
theorem dX7_init_93 : decode cX7_init 93 = .ok (.putfield 50, 3) := by decide +kernel
theorem dX7_init_96 : decode cX7_init 96 = .ok (.aload_n 0, 1) := by decide +kernel
theorem dX7_init_97 : decode cX7_init 97 = .ok (.lconst 0, 1) := by decide +kernel
theorem dX7_init_98 : decode cX7_init 98 = .ok (.putfield 53, 3) := by decide +kernel
theorem dX7_init_101 : decode cX7_init 101 = .ok (.aload_n 0, 1) := by decide +kernel
theorem dX7_init_102 : decode cX7_init 102 = .ok (.lconst 0, 1) := by decide +kernel
theorem dX7_init_103 : decode cX7_init 103 = .ok (.putfield 57, 3) := by decide +kernel
theorem dX7_init_106 : decode cX7_init 106 = .ok (.aload_n 0, 1) := by decide +kernel
theorem dX7_init_107 : decode cX7_init 107 = .ok (.bipush 17, 2) := by decide +kernel
theorem dX7_init_109 : decode cX7_init 109 = .ok (.newarray .int, 2) := by decide +kernel
theorem dX7_init_111 : decode cX7_init 111 = .ok (.putfield 60, 3) := by decide +kernel
theorem dX7_init_114 : decode cX7_init 114 = .ok (.aload_n 0, 1) := by decide +kernel
theorem dX7_init_115 : decode cX7_init 115 = .ok (.sipush 5000, 3) := by decide +kernel
theorem dX7_init_118 : decode cX7_init 118 = .ok (.newarray .int, 2) := by decide +kernel
theorem dX7_init_120 : decode cX7_init 120 = .ok (.putfield 63, 3) := by decide +kernel
theorem dX7_init_123 : decode cX7_init 123 = .ok (.aload_n 0, 1) := by decide +kernel
theorem dX7_init_124 : decode cX7_init 124 = .ok (.sipush 5000, 3) := by decide +kernel
theorem dX7_init_127 : decode cX7_init 127 = .ok (.newarray .int, 2) := by decide +kernel
theorem dX7_init_129 : decode cX7_init 129 = .ok (.putfield 66, 3) := by decide +kernel
theorem dX7_init_132 : decode cX7_init 132 = .ok (.aload_n 0, 1) := by decide +kernel
theorem dX7_init_133 : decode cX7_init 133 = .ok (.sipush 5000, 3) := by decide +kernel
theorem dX7_init_136 : decode cX7_init 136 = .ok (.newarray .int, 2) := by decide +kernel
theorem dX7_init_138 : decode cX7_init 138 = .ok (.putfield 69, 3) := by decide +kernel
theorem dX7_init_141 : decode cX7_init 141 = .ok (.aload_n 0, 1) := by decide +kernel
theorem dX7_init_142 : decode cX7_init 142 = .ok (.sipush 5000, 3) := by decide +kernel
theorem dX7_init_145 : decode cX7_init 145 = .ok (.newarray .long, 2) := by decide +kernel
theorem dX7_init_147 : decode cX7_init 147 = .ok (.putfield 72, 3) := by decide +kernel
theorem dX7_init_150 : decode cX7_init 150 = .ok (.aload_n 0, 1) := by decide +kernel
theorem dX7_init_151 : decode cX7_init 151 = .ok (.sipush 5000, 3) := by decide +kernel
theorem dX7_init_154 : decode cX7_init 154 = .ok (.newarray .long, 2) := by decide +kernel
theorem dX7_init_156 : decode cX7_init 156 = .ok (.putfield 76, 3) := by decide +kernel
theorem dX7_init_159 : decode cX7_init 159 = .ok (.aload_n 0, 1) := by decide +kernel
theorem dX7_init_160 : decode cX7_init 160 = .ok (.iconst 0, 1) := by decide +kernel
theorem dX7_init_161 : decode cX7_init 161 = .ok (.putfield 79, 3) := by decide +kernel
theorem dX7_init_164 : decode cX7_init 164 = .ok (.aload_n 0, 1) := by decide +kernel
theorem dX7_init_165 : decode cX7_init 165 = .ok (.sipush 5000, 3) := by decide +kernel
theorem dX7_init_168 : decode cX7_init 168 = .ok (.newarray .int, 2) := by decide +kernel
theorem dX7_init_170 : decode cX7_init 170 = .ok (.putfield 82, 3) := by decide +kernel
theorem dX7_init_173 : decode cX7_init 173 = .ok (.aload_n 0, 1) := by decide +kernel
theorem dX7_init_174 : decode cX7_init 174 = .ok (.sipush 5000, 3) := by decide +kernel
theorem dX7_init_177 : decode cX7_init 177 = .ok (.newarray .long, 2) := by decide +kernel
theorem dX7_init_179 : decode cX7_init 179 = .ok (.putfield 85, 3) := by decide +kernel
theorem dX7_init_182 : decode cX7_init 182 = .ok (.aload_n 0, 1) := by decide +kernel
theorem dX7_init_183 : decode cX7_init 183 = .ok (.sipush 5000, 3) := by decide +kernel
theorem dX7_init_186 : decode cX7_init 186 = .ok (.newarray .long, 2) := by decide +kernel
theorem dX7_init_188 : decode cX7_init 188 = .ok (.putfield 88, 3) := by decide +kernel
theorem dX7_init_191 : decode cX7_init 191 = .ok (.aload_n 0, 1) := by decide +kernel
theorem dX7_init_192 : decode cX7_init 192 = .ok (.iconst 0, 1) := by decide +kernel
theorem dX7_init_193 : decode cX7_init 193 = .ok (.putfield 91, 3) := by decide +kernel
theorem dX7_init_196 : decode cX7_init 196 = .ok (.aload_n 0, 1) := by decide +kernel
theorem dX7_init_197 : decode cX7_init 197 = .ok (.bipush 33, 2) := by decide +kernel
theorem dX7_init_199 : decode cX7_init 199 = .ok (.newarray .long, 2) := by decide +kernel
theorem dX7_init_201 : decode cX7_init 201 = .ok (.putfield 94, 3) := by decide +kernel
theorem dX7_init_204 : decode cX7_init 204 = .ok (.aload_n 0, 1) := by decide +kernel
theorem dX7_init_205 : decode cX7_init 205 = .ok (.sipush 528, 3) := by decide +kernel
theorem dX7_init_208 : decode cX7_init 208 = .ok (.newarray .boolean, 2) := by decide +kernel
theorem dX7_init_210 : decode cX7_init 210 = .ok (.putfield 97, 3) := by decide +kernel
theorem dX7_init_213 : decode cX7_init 213 = .ok (.aload_n 0, 1) := by decide +kernel
theorem dX7_init_214 : decode cX7_init 214 = .ok (.ldc 101, 2) := by decide +kernel
theorem dX7_init_216 : decode cX7_init 216 = .ok (.newarray .int, 2) := by decide +kernel
theorem dX7_init_218 : decode cX7_init 218 = .ok (.putfield 102, 3) := by decide +kernel
theorem dX7_init_221 : decode cX7_init 221 = .ok (.aload_n 0, 1) := by decide +kernel
theorem dX7_init_222 : decode cX7_init 222 = .ok (.iconst 5, 1) := by decide +kernel
theorem dX7_init_223 : decode cX7_init 223 = .ok (.newarray .int, 2) := by decide +kernel
theorem dX7_init_225 : decode cX7_init 225 = .ok (.putfield 105, 3) := by decide +kernel
theorem dX7_init_228 : decode cX7_init 228 = .ok (.aload_n 0, 1) := by decide +kernel
theorem dX7_init_229 : decode cX7_init 229 = .ok (.iconst 5, 1) := by decide +kernel
theorem dX7_init_230 : decode cX7_init 230 = .ok (.newarray .int, 2) := by decide +kernel
theorem dX7_init_232 : decode cX7_init 232 = .ok (.putfield 108, 3) := by decide +kernel
theorem dX7_init_235 : decode cX7_init 235 = .ok (.aload_n 0, 1) := by decide +kernel
theorem dX7_init_236 : decode cX7_init 236 = .ok (.sipush 20736, 3) := by decide +kernel
theorem dX7_init_239 : decode cX7_init 239 = .ok (.newarray .int, 2) := by decide +kernel
theorem dX7_init_241 : decode cX7_init 241 = .ok (.putfield 111, 3) := by decide +kernel
theorem dX7_init_244 : decode cX7_init 244 = .ok (.aload_n 0, 1) := by decide +kernel
theorem dX7_init_245 : decode cX7_init 245 = .ok (.sipush 20736, 3) := by decide +kernel
theorem dX7_init_248 : decode cX7_init 248 = .ok (.newarray .int, 2) := by decide +kernel
theorem dX7_init_250 : decode cX7_init 250 = .ok (.putfield 114, 3) := by decide +kernel
theorem dX7_init_253 : decode cX7_init 253 = .ok (.aload_n 0, 1) := by decide +kernel
theorem dX7_init_254 : decode cX7_init 254 = .ok (.sipush 20736, 3) := by decide +kernel
theorem dX7_init_257 : decode cX7_init 257 = .ok (.newarray .int, 2) := by decide +kernel
theorem dX7_init_259 : decode cX7_init 259 = .ok (.putfield 117, 3) := by decide +kernel
theorem dX7_init_262 : decode cX7_init 262 = .ok (.aload_n 0, 1) := by decide +kernel
theorem dX7_init_263 : decode cX7_init 263 = .ok (.ldc 120, 2) := by decide +kernel
theorem dX7_init_265 : decode cX7_init 265 = .ok (.newarray .int, 2) := by decide +kernel
theorem dX7_init_267 : decode cX7_init 267 = .ok (.putfield 121, 3) := by decide +kernel
theorem dX7_init_270 : decode cX7_init 270 = .ok (.aload_n 0, 1) := by decide +kernel
theorem dX7_init_271 : decode cX7_init 271 = .ok (.iconst 0, 1) := by decide +kernel
theorem dX7_init_272 : decode cX7_init 272 = .ok (.putfield 124, 3) := by decide +kernel
theorem dX7_init_275 : decode cX7_init 275 = .ok (.aload_n 0, 1) := by decide +kernel
theorem dX7_init_276 : decode cX7_init 276 = .ok (.iconst 0, 1) := by decide +kernel
theorem dX7_init_277 : decode cX7_init 277 = .ok (.putfield 127, 3) := by decide +kernel
theorem dX7_init_280 : decode cX7_init 280 = .ok (.aload_n 0, 1) := by decide +kernel
theorem dX7_init_281 : decode cX7_init 281 = .ok (.iconst 0, 1) := by decide +kernel
theorem dX7_init_282 : decode cX7_init 282 = .ok (.putfield 130, 3) := by decide +kernel
theorem dX7_init_285 : decode cX7_init 285 = .ok (.aload_n 0, 1) := by decide +kernel
theorem dX7_init_286 : decode cX7_init 286 = .ok (.ldc 120, 2) := by decide +kernel
theorem dX7_init_288 : decode cX7_init 288 = .ok (.newarray .int, 2) := by decide +kernel
theorem dX7_init_290 : decode cX7_init 290 = .ok (.putfield 133, 3) := by decide +kernel
theorem dX7_init_293 : decode cX7_init 293 = .ok (.return_, 1) := by decide +kernel
theorem dX7_isTable_0 : decode cX7_isTable 0 = .ok (.iload_n 1, 1) := by decide +kernel
theorem dX7_isTable_1 : decode cX7_isTable 1 = .ok (.ifCond .lt 15, 3) := by decide +kernel
theorem dX7_isTable_4 : decode cX7_isTable 4 = .ok (.iload_n 1, 1) := by decide +kernel
theorem dX7_isTable_5 : decode cX7_isTable 5 = .ok (.aload_n 0, 1) := by decide +kernel
theorem dX7_isTable_6 : decode cX7_isTable 6 = .ok (.getfield 7, 3) := by decide +kernel
theorem dX7_isTable_9 : decode cX7_isTable 9 = .ok (.if_icmp .ge 7, 3) := by decide +kernel
theorem dX7_isTable_12 : decode cX7_isTable 12 = .ok (.iconst 1, 1) := by decide +kernel
theorem dX7_isTable_13 : decode cX7_isTable 13 = .ok (.goto 4, 3) := by decide +kernel
theorem dX7_isTable_16 : decode cX7_isTable 16 = .ok (.iconst 0, 1) := by decide +kernel
theorem dX7_isTable_17 : decode cX7_isTable 17 = .ok (.ireturn, 1) := by decide +kernel
theorem dX7_isColumn_0 : decode cX7_isColumn 0 = .ok (.iload_n 1, 1) := by decide +kernel
theorem dX7_isColumn_1 : decode cX7_isColumn 1 = .ok (.ifCond .lt 12, 3) := by decide +kernel
theorem dX7_isColumn_4 : decode cX7_isColumn 4 = .ok (.iload_n 1, 1) := by decide +kernel
theorem dX7_isColumn_5 : decode cX7_isColumn 5 = .ok (.iconst 2, 1) := by decide +kernel
theorem dX7_isColumn_6 : decode cX7_isColumn 6 = .ok (.if_icmp .gt 7, 3) := by decide +kernel
theorem dX7_isColumn_9 : decode cX7_isColumn 9 = .ok (.iconst 1, 1) := by decide +kernel
theorem dX7_isColumn_10 : decode cX7_isColumn 10 = .ok (.goto 4, 3) := by decide +kernel
theorem dX7_isColumn_13 : decode cX7_isColumn 13 = .ok (.iconst 0, 1) := by decide +kernel
theorem dX7_isColumn_14 : decode cX7_isColumn 14 = .ok (.ireturn, 1) := by decide +kernel
theorem dX7_open_0 : decode cX7_open 0 = .ok (.iconst 0, 1) := by decide +kernel
theorem dX7_open_1 : decode cX7_open 1 = .ok (.istore_n 1, 1) := by decide +kernel
theorem dX7_open_2 : decode cX7_open 2 = .ok (.iload_n 1, 1) := by decide +kernel
theorem dX7_open_3 : decode cX7_open 3 = .ok (.aload_n 0, 1) := by decide +kernel
theorem dX7_open_4 : decode cX7_open 4 = .ok (.getfield 13, 3) := by decide +kernel
theorem dX7_open_7 : decode cX7_open 7 = .ok (.if_icmp .ge 20, 3) := by decide +kernel
theorem dX7_open_10 : decode cX7_open 10 = .ok (.aload_n 0, 1) := by decide +kernel
theorem dX7_open_11 : decode cX7_open 11 = .ok (.getfield 41, 3) := by decide +kernel
theorem dX7_open_14 : decode cX7_open 14 = .ok (.iload_n 1, 1) := by decide +kernel
theorem dX7_open_15 : decode cX7_open 15 = .ok (.iaload, 1) := by decide +kernel
theorem dX7_open_16 : decode cX7_open 16 = .ok (.ifCond .ne 5, 3) := by decide +kernel
theorem dX7_open_19 : decode cX7_open 19 = .ok (.iload_n 1, 1) := by decide +kernel
theorem dX7_open_20 : decode cX7_open 20 = .ok (.ireturn, 1) := by decide +kernel
theorem dX7_open_21 : decode cX7_open 21 = .ok (.iinc 1 1, 3) := by decide +kernel
theorem dX7_open_24 : decode cX7_open 24 = .ok (.goto (-22), 3) := by decide +kernel
theorem dX7_open_27 : decode cX7_open 27 = .ok (.iconst (-1), 1) := by decide +kernel
theorem dX7_open_28 : decode cX7_open 28 = .ok (.ireturn, 1) := by decide +kernel
theorem dX7_isBetween_0 : decode cX7_isBetween 0 = .ok (.iconst 1, 1) := by decide +kernel
theorem dX7_isBetween_1 : decode cX7_isBetween 1 = .ok (.aload_n 0, 1) := by decide +kernel
theorem dX7_isBetween_2 : decode cX7_isBetween 2 = .ok (.getfield 29, 3) := by decide +kernel
theorem dX7_isBetween_5 : decode cX7_isBetween 5 = .ok (.iload_n 1, 1) := by decide +kernel
theorem dX7_isBetween_6 : decode cX7_isBetween 6 = .ok (.iaload, 1) := by decide +kernel
theorem dX7_isBetween_7 : decode cX7_isBetween 7 = .ok (.ishl, 1) := by decide +kernel
theorem dX7_isBetween_8 : decode cX7_isBetween 8 = .ok (.istore 4, 2) := by decide +kernel
theorem dX7_isBetween_10 : decode cX7_isBetween 10 = .ok (.iconst 1, 1) := by decide +kernel
theorem dX7_isBetween_11 : decode cX7_isBetween 11 = .ok (.aload_n 0, 1) := by decide +kernel
theorem dX7_isBetween_12 : decode cX7_isBetween 12 = .ok (.getfield 35, 3) := by decide +kernel
theorem dX7_isBetween_15 : decode cX7_isBetween 15 = .ok (.iload_n 1, 1) := by decide +kernel
theorem dX7_isBetween_16 : decode cX7_isBetween 16 = .ok (.iaload, 1) := by decide +kernel
theorem dX7_isBetween_17 : decode cX7_isBetween 17 = .ok (.ishl, 1) := by decide +kernel
theorem dX7_isBetween_18 : decode cX7_isBetween 18 = .ok (.istore 5, 2) := by decide +kernel
theorem dX7_isBetween_20 : decode cX7_isBetween 20 = .ok (.iload 4, 2) := by decide +kernel
theorem dX7_isBetween_22 : decode cX7_isBetween 22 = .ok (.iload_n 2, 1) := by decide +kernel
theorem dX7_isBetween_23 : decode cX7_isBetween 23 = .ok (.iand, 1) := by decide +kernel
theorem dX7_isBetween_24 : decode cX7_isBetween 24 = .ok (.ifCond .eq 10, 3) := by decide +kernel
theorem dX7_isBetween_27 : decode cX7_isBetween 27 = .ok (.iload 5, 2) := by decide +kernel
theorem dX7_isBetween_29 : decode cX7_isBetween 29 = .ok (.iload_n 3, 1) := by decide +kernel
theorem dX7_isBetween_30 : decode cX7_isBetween 30 = .ok (.iand, 1) := by decide +kernel
theorem dX7_isBetween_31 : decode cX7_isBetween 31 = .ok (.ifCond .ne 17, 3) := by decide +kernel
theorem dX7_isBetween_34 : decode cX7_isBetween 34 = .ok (.iload 4, 2) := by decide +kernel
theorem dX7_isBetween_36 : decode cX7_isBetween 36 = .ok (.iload_n 3, 1) := by decide +kernel
theorem dX7_isBetween_37 : decode cX7_isBetween 37 = .ok (.iand, 1) := by decide +kernel
theorem dX7_isBetween_38 : decode cX7_isBetween 38 = .ok (.ifCond .eq 14, 3) := by decide +kernel
theorem dX7_isBetween_41 : decode cX7_isBetween 41 = .ok (.iload 5, 2) := by decide +kernel
theorem dX7_isBetween_43 : decode cX7_isBetween 43 = .ok (.iload_n 2, 1) := by decide +kernel
theorem dX7_isBetween_44 : decode cX7_isBetween 44 = .ok (.iand, 1) := by decide +kernel
theorem dX7_isBetween_45 : decode cX7_isBetween 45 = .ok (.ifCond .eq 7, 3) := by decide +kernel
theorem dX7_isBetween_48 : decode cX7_isBetween 48 = .ok (.iconst 1, 1) := by decide +kernel
theorem dX7_isBetween_49 : decode cX7_isBetween 49 = .ok (.goto 4, 3) := by decide +kernel
theorem dX7_isBetween_52 : decode cX7_isBetween 52 = .ok (.iconst 0, 1) := by decide +kernel
theorem dX7_isBetween_53 : decode cX7_isBetween 53 = .ok (.ireturn, 1) := by decide +kernel
set_option maxRecDepth 20000 in
theorem ggX7_between_X7_isBetween : GoodIn wsX7_between wsX7_isBetween := goodIn_r _ [6, 7, 8, 9, 10, 11, 12, 13, 14, 15, 16, 17, 18, 19, 20, 21, 22, 23, 24, 25, 26, 27, 28, 29, 30, 31, 32, 33, 34, 35, 36, 37, 38, 39, 40, 41, 42, 43, 44, 45, 46, 47, 48] (by decide +kernel) (by decide +kernel)
set_option maxRecDepth 20000 in
theorem gX7_between_X7_isBetween : GoodIn wsX7_between (wsV RX7 136 RX7 yX7_isBetween wsX7_isBetween) := goodIn_app (goodIn_of _ (by decide +kernel)) ggX7_between_X7_isBetween
theorem dX7_between_0 : decode cX7_between 0 = .ok (.iconst 0, 1) := by decide +kernel
theorem dX7_between_1 : decode cX7_between 1 = .ok (.istore_n 3, 1) := by decide +kernel
theorem dX7_between_2 : decode cX7_between 2 = .ok (.iload_n 3, 1) := by decide +kernel
theorem dX7_between_3 : decode cX7_between 3 = .ok (.aload_n 0, 1) := by decide +kernel
theorem dX7_between_4 : decode cX7_between 4 = .ok (.getfield 13, 3) := by decide +kernel
theorem dX7_between_7 : decode cX7_between 7 = .ok (.if_icmp .ge 21, 3) := by decide +kernel
theorem dX7_between_10 : decode cX7_between 10 = .ok (.aload_n 0, 1) := by decide +kernel
theorem dX7_between_11 : decode cX7_between 11 = .ok (.iload_n 3, 1) := by decide +kernel
theorem dX7_between_12 : decode cX7_between 12 = .ok (.iload_n 1, 1) := by decide +kernel
theorem dX7_between_13 : decode cX7_between 13 = .ok (.iload_n 2, 1) := by decide +kernel
theorem dX7_between_14 : decode cX7_between 14 = .ok (.invokevirtual 136, 3) := by decide +kernel
theorem dX7_between_17 : decode cX7_between 17 = .ok (.ifCond .eq 5, 3) := by decide +kernel
theorem dX7_between_20 : decode cX7_between 20 = .ok (.iload_n 3, 1) := by decide +kernel
theorem dX7_between_21 : decode cX7_between 21 = .ok (.ireturn, 1) := by decide +kernel
theorem dX7_between_22 : decode cX7_between 22 = .ok (.iinc 3 1, 3) := by decide +kernel
theorem dX7_between_25 : decode cX7_between 25 = .ok (.goto (-23), 3) := by decide +kernel
theorem dX7_between_28 : decode cX7_between 28 = .ok (.iconst (-1), 1) := by decide +kernel
theorem dX7_between_29 : decode cX7_between 29 = .ok (.ireturn, 1) := by decide +kernel
theorem dX7_all_0 : decode cX7_all 0 = .ok (.iconst 1, 1) := by decide +kernel
theorem dX7_all_1 : decode cX7_all 1 = .ok (.aload_n 0, 1) := by decide +kernel
theorem dX7_all_2 : decode cX7_all 2 = .ok (.getfield 7, 3) := by decide +kernel
theorem dX7_all_5 : decode cX7_all 5 = .ok (.ishl, 1) := by decide +kernel
theorem dX7_all_6 : decode cX7_all 6 = .ok (.iconst 1, 1) := by decide +kernel
theorem dX7_all_7 : decode cX7_all 7 = .ok (.isub, 1) := by decide +kernel
theorem dX7_all_8 : decode cX7_all 8 = .ok (.ireturn, 1) := by decide +kernel
set_option maxRecDepth 20000 in
theorem ggX7_isWhole_X7_all : GoodIn wsX7_isWhole wsX7_all := goodIn_r _ [10, 1, 15, 16, 17, 18, 19, 20, 21, 22, 23, 24, 25, 26, 27, 28, 29, 30, 31, 32, 33, 34, 35, 36, 37, 38, 39, 40, 41, 42, 43, 44, 45, 46, 47, 48, 49, 50, 51, 52, 53, 54] (by decide +kernel) (by decide +kernel)
set_option maxRecDepth 20000 in
theorem gX7_isWhole_X7_all : GoodIn wsX7_isWhole (wsV RX7 140 RX7 yX7_all wsX7_all) := goodIn_app (goodIn_of _ (by decide +kernel)) ggX7_isWhole_X7_all
set_option maxRecDepth 20000 in
theorem ggX7_isWhole_X7_isBetween : GoodIn wsX7_isWhole wsX7_isBetween := goodIn_r _ [14, 3, 4, 15, 16, 17, 18, 19, 20, 21, 22, 23, 24, 25, 26, 27, 28, 29, 30, 31, 32, 33, 34, 35, 36, 37, 38, 39, 40, 41, 42, 43, 44, 45, 46, 47, 48, 49, 50, 51, 52, 53, 54] (by decide +kernel) (by decide +kernel)
set_option maxRecDepth 20000 in
theorem gX7_isWhole_X7_isBetween : GoodIn wsX7_isWhole (wsV RX7 136 RX7 yX7_isBetween wsX7_isBetween) := goodIn_app (goodIn_of _ (by decide +kernel)) ggX7_isWhole_X7_isBetween
theorem dX7_isWhole_0 : decode cX7_isWhole 0 = .ok (.aload_n 0, 1) := by decide +kernel
theorem dX7_isWhole_1 : decode cX7_isWhole 1 = .ok (.getfield 7, 3) := by decide +kernel
theorem dX7_isWhole_4 : decode cX7_isWhole 4 = .ok (.ifCond .ne 5, 3) := by decide +kernel
theorem dX7_isWhole_7 : decode cX7_isWhole 7 = .ok (.iconst 0, 1) := by decide +kernel
theorem dX7_isWhole_8 : decode cX7_isWhole 8 = .ok (.ireturn, 1) := by decide +kernel
theorem dX7_isWhole_9 : decode cX7_isWhole 9 = .ok (.iconst 1, 1) := by decide +kernel
theorem dX7_isWhole_10 : decode cX7_isWhole 10 = .ok (.istore_n 1, 1) := by decide +kernel
theorem dX7_isWhole_11 : decode cX7_isWhole 11 = .ok (.iconst 0, 1) := by decide +kernel
theorem dX7_isWhole_12 : decode cX7_isWhole 12 = .ok (.istore_n 2, 1) := by decide +kernel
theorem dX7_isWhole_13 : decode cX7_isWhole 13 = .ok (.iload_n 2, 1) := by decide +kernel
theorem dX7_isWhole_14 : decode cX7_isWhole 14 = .ok (.iconst 4, 1) := by decide +kernel
theorem dX7_isWhole_15 : decode cX7_isWhole 15 = .ok (.if_icmp .ge 62, 3) := by decide +kernel
theorem dX7_isWhole_18 : decode cX7_isWhole 18 = .ok (.iconst 0, 1) := by decide +kernel
theorem dX7_isWhole_19 : decode cX7_isWhole 19 = .ok (.istore_n 3, 1) := by decide +kernel
theorem dX7_isWhole_20 : decode cX7_isWhole 20 = .ok (.iload_n 3, 1) := by decide +kernel
theorem dX7_isWhole_21 : decode cX7_isWhole 21 = .ok (.aload_n 0, 1) := by decide +kernel
theorem dX7_isWhole_22 : decode cX7_isWhole 22 = .ok (.getfield 13, 3) := by decide +kernel
theorem dX7_isWhole_25 : decode cX7_isWhole 25 = .ok (.if_icmp .ge 46, 3) := by decide +kernel
theorem dX7_isWhole_28 : decode cX7_isWhole 28 = .ok (.aload_n 0, 1) := by decide +kernel
theorem dX7_isWhole_29 : decode cX7_isWhole 29 = .ok (.iload_n 3, 1) := by decide +kernel
theorem dX7_isWhole_30 : decode cX7_isWhole 30 = .ok (.iload_n 1, 1) := by decide +kernel
theorem dX7_isWhole_31 : decode cX7_isWhole 31 = .ok (.aload_n 0, 1) := by decide +kernel
theorem dX7_isWhole_32 : decode cX7_isWhole 32 = .ok (.invokevirtual 140, 3) := by decide +kernel
theorem dX7_isWhole_35 : decode cX7_isWhole 35 = .ok (.iload_n 1, 1) := by decide +kernel
theorem dX7_isWhole_36 : decode cX7_isWhole 36 = .ok (.iconst (-1), 1) := by decide +kernel
theorem dX7_isWhole_37 : decode cX7_isWhole 37 = .ok (.ixor, 1) := by decide +kernel
theorem dX7_isWhole_38 : decode cX7_isWhole 38 = .ok (.iand, 1) := by decide +kernel
theorem dX7_isWhole_39 : decode cX7_isWhole 39 = .ok (.invokevirtual 136, 3) := by decide +kernel
theorem dX7_isWhole_42 : decode cX7_isWhole 42 = .ok (.ifCond .eq 23, 3) := by decide +kernel
theorem dX7_isWhole_45 : decode cX7_isWhole 45 = .ok (.iload_n 1, 1) := by decide +kernel
theorem dX7_isWhole_46 : decode cX7_isWhole 46 = .ok (.iconst 1, 1) := by decide +kernel
theorem dX7_isWhole_47 : decode cX7_isWhole 47 = .ok (.aload_n 0, 1) := by decide +kernel
theorem dX7_isWhole_48 : decode cX7_isWhole 48 = .ok (.getfield 29, 3) := by decide +kernel
theorem dX7_isWhole_51 : decode cX7_isWhole 51 = .ok (.iload_n 3, 1) := by decide +kernel
theorem dX7_isWhole_52 : decode cX7_isWhole 52 = .ok (.iaload, 1) := by decide +kernel
theorem dX7_isWhole_53 : decode cX7_isWhole 53 = .ok (.ishl, 1) := by decide +kernel
theorem dX7_isWhole_54 : decode cX7_isWhole 54 = .ok (.iconst 1, 1) := by decide +kernel
theorem dX7_isWhole_55 : decode cX7_isWhole 55 = .ok (.aload_n 0, 1) := by decide +kernel
theorem dX7_isWhole_56 : decode cX7_isWhole 56 = .ok (.getfield 35, 3) := by decide +kernel
theorem dX7_isWhole_59 : decode cX7_isWhole 59 = .ok (.iload_n 3, 1) := by decide +kernel
theorem dX7_isWhole_60 : decode cX7_isWhole 60 = .ok (.iaload, 1) := by decide +kernel
theorem dX7_isWhole_61 : decode cX7_isWhole 61 = .ok (.ishl, 1) := by decide +kernel
theorem dX7_isWhole_62 : decode cX7_isWhole 62 = .ok (.ior, 1) := by decide +kernel
theorem dX7_isWhole_63 : decode cX7_isWhole 63 = .ok (.ior, 1) := by decide +kernel
theorem dX7_isWhole_64 : decode cX7_isWhole 64 = .ok (.istore_n 1, 1) := by decide +kernel
theorem dX7_isWhole_65 : decode cX7_isWhole 65 = .ok (.iinc 3 1, 3) := by decide +kernel
theorem dX7_isWhole_68 : decode cX7_isWhole 68 = .ok (.goto (-48), 3) := by decide +kernel
theorem dX7_isWhole_71 : decode cX7_isWhole 71 = .ok (.iinc 2 1, 3) := by decide +kernel
theorem dX7_isWhole_74 : decode cX7_isWhole 74 = .ok (.goto (-61), 3) := by decide +kernel
theorem dX7_isWhole_77 : decode cX7_isWhole 77 = .ok (.iload_n 1, 1) := by decide +kernel
theorem dX7_isWhole_78 : decode cX7_isWhole 78 = .ok (.aload_n 0, 1) := by decide +kernel
theorem dX7_isWhole_79 : decode cX7_isWhole 79 = .ok (.invokevirtual 140, 3) := by decide +kernel
theorem dX7_isWhole_82 : decode cX7_isWhole 82 = .ok (.if_icmp .ne 7, 3) := by decide +kernel
theorem dX7_isWhole_85 : decode cX7_isWhole 85 = .ok (.iconst 1, 1) := by decide +kernel
theorem dX7_isWhole_86 : decode cX7_isWhole 86 = .ok (.goto 4, 3) := by decide +kernel
theorem dX7_isWhole_89 : decode cX7_isWhole 89 = .ok (.iconst 0, 1) := by decide +kernel
theorem dX7_isWhole_90 : decode cX7_isWhole 90 = .ok (.istore_n 2, 1) := by decide +kernel
theorem dX7_isWhole_91 : decode cX7_isWhole 91 = .ok (.iconst 0, 1) := by decide +kernel
theorem dX7_isWhole_92 : decode cX7_isWhole 92 = .ok (.istore_n 3, 1) := by decide +kernel
theorem dX7_isWhole_93 : decode cX7_isWhole 93 = .ok (.iload_n 3, 1) := by decide +kernel
theorem dX7_isWhole_94 : decode cX7_isWhole 94 = .ok (.aload_n 0, 1) := by decide +kernel
theorem dX7_isWhole_95 : decode cX7_isWhole 95 = .ok (.getfield 7, 3) := by decide +kernel
theorem dX7_isWhole_98 : decode cX7_isWhole 98 = .ok (.if_icmp .ge 28, 3) := by decide +kernel
theorem dX7_isWhole_101 : decode cX7_isWhole 101 = .ok (.iload_n 2, 1) := by decide +kernel
theorem dX7_isWhole_102 : decode cX7_isWhole 102 = .ok (.ifCond .eq 16, 3) := by decide +kernel
theorem dX7_isWhole_105 : decode cX7_isWhole 105 = .ok (.aload_n 0, 1) := by decide +kernel
theorem dX7_isWhole_106 : decode cX7_isWhole 106 = .ok (.getfield 22, 3) := by decide +kernel
theorem dX7_isWhole_109 : decode cX7_isWhole 109 = .ok (.iload_n 3, 1) := by decide +kernel
theorem dX7_isWhole_110 : decode cX7_isWhole 110 = .ok (.iaload, 1) := by decide +kernel
theorem dX7_isWhole_111 : decode cX7_isWhole 111 = .ok (.ifCond .le 7, 3) := by decide +kernel
theorem dX7_isWhole_114 : decode cX7_isWhole 114 = .ok (.iconst 1, 1) := by decide +kernel
theorem dX7_isWhole_115 : decode cX7_isWhole 115 = .ok (.goto 4, 3) := by decide +kernel
theorem dX7_isWhole_118 : decode cX7_isWhole 118 = .ok (.iconst 0, 1) := by decide +kernel
theorem dX7_isWhole_119 : decode cX7_isWhole 119 = .ok (.istore_n 2, 1) := by decide +kernel
theorem dX7_isWhole_120 : decode cX7_isWhole 120 = .ok (.iinc 3 1, 3) := by decide +kernel
theorem dX7_isWhole_123 : decode cX7_isWhole 123 = .ok (.goto (-30), 3) := by decide +kernel
theorem dX7_isWhole_126 : decode cX7_isWhole 126 = .ok (.iload_n 2, 1) := by decide +kernel
theorem dX7_isWhole_127 : decode cX7_isWhole 127 = .ok (.ireturn, 1) := by decide +kernel
theorem dX7_table_0 : decode cX7_table 0 = .ok (.aload_n 0, 1) := by decide +kernel
theorem dX7_table_1 : decode cX7_table 1 = .ok (.getfield 44, 3) := by decide +kernel
theorem dX7_table_4 : decode cX7_table 4 = .ok (.ifCond .le 6, 3) := by decide +kernel
theorem dX7_table_7 : decode cX7_table 7 = .ok (.bipush (-3), 2) := by decide +kernel
theorem dX7_table_9 : decode cX7_table 9 = .ok (.ireturn, 1) := by decide +kernel
theorem dX7_table_10 : decode cX7_table 10 = .ok (.aload_n 0, 1) := by decide +kernel
theorem dX7_table_11 : decode cX7_table 11 = .ok (.getfield 7, 3) := by decide +kernel
theorem dX7_table_14 : decode cX7_table 14 = .ok (.iconst 4, 1) := by decide +kernel
theorem dX7_table_15 : decode cX7_table 15 = .ok (.if_icmp .ne 6, 3) := by decide +kernel
theorem dX7_table_18 : decode cX7_table 18 = .ok (.bipush (-4), 2) := by decide +kernel
theorem dX7_table_20 : decode cX7_table 20 = .ok (.ireturn, 1) := by decide +kernel
theorem dX7_table_21 : decode cX7_table 21 = .ok (.aload_n 0, 1) := by decide +kernel
theorem dX7_table_22 : decode cX7_table 22 = .ok (.getfield 22, 3) := by decide +kernel
theorem dX7_table_25 : decode cX7_table 25 = .ok (.aload_n 0, 1) := by decide +kernel
theorem dX7_table_26 : decode cX7_table 26 = .ok (.getfield 7, 3) := by decide +kernel
theorem dX7_table_29 : decode cX7_table 29 = .ok (.iconst 0, 1) := by decide +kernel
theorem dX7_table_30 : decode cX7_table 30 = .ok (.iastore, 1) := by decide +kernel
theorem dX7_table_31 : decode cX7_table 31 = .ok (.aload_n 0, 1) := by decide +kernel
theorem dX7_table_32 : decode cX7_table 32 = .ok (.dup, 1) := by decide +kernel
theorem dX7_table_33 : decode cX7_table 33 = .ok (.getfield 7, 3) := by decide +kernel
theorem dX7_table_36 : decode cX7_table 36 = .ok (.iconst 1, 1) := by decide +kernel
theorem dX7_table_37 : decode cX7_table 37 = .ok (.iadd, 1) := by decide +kernel
theorem dX7_table_38 : decode cX7_table 38 = .ok (.putfield 7, 3) := by decide +kernel
theorem dX7_table_41 : decode cX7_table 41 = .ok (.aload_n 0, 1) := by decide +kernel
theorem dX7_table_42 : decode cX7_table 42 = .ok (.getfield 7, 3) := by decide +kernel
theorem dX7_table_45 : decode cX7_table 45 = .ok (.iconst 1, 1) := by decide +kernel
theorem dX7_table_46 : decode cX7_table 46 = .ok (.isub, 1) := by decide +kernel
theorem dX7_table_47 : decode cX7_table 47 = .ok (.ireturn, 1) := by decide +kernel
set_option maxRecDepth 20000 in
theorem ggX7_row_X7_isTable : GoodIn wsX7_row wsX7_isTable := goodIn_r _ [8, 9, 10, 11, 12, 13, 14, 15, 16, 17, 18, 19, 20, 21, 22, 23, 24, 25, 26, 27, 28, 29, 30, 31, 32, 33, 34, 35, 36, 37, 38, 39, 40, 41, 42, 43, 44, 45, 46, 47, 48, 49] (by decide +kernel) (by decide +kernel)
set_option maxRecDepth 20000 in
theorem gX7_row_X7_isTable : GoodIn wsX7_row (wsV RX7 144 RX7 yX7_isTable wsX7_isTable) := goodIn_app (goodIn_of _ (by decide +kernel)) ggX7_row_X7_isTable
theorem dX7_row_0 : decode cX7_row 0 = .ok (.aload_n 0, 1) := by decide +kernel
theorem dX7_row_1 : decode cX7_row 1 = .ok (.iload_n 1, 1) := by decide +kernel
theorem dX7_row_2 : decode cX7_row 2 = .ok (.invokevirtual 144, 3) := by decide +kernel
theorem dX7_row_5 : decode cX7_row 5 = .ok (.ifCond .ne 5, 3) := by decide +kernel
theorem dX7_row_8 : decode cX7_row 8 = .ok (.iconst (-1), 1) := by decide +kernel
theorem dX7_row_9 : decode cX7_row 9 = .ok (.ireturn, 1) := by decide +kernel
theorem dX7_row_10 : decode cX7_row 10 = .ok (.aload_n 0, 1) := by decide +kernel
theorem dX7_row_11 : decode cX7_row 11 = .ok (.getfield 44, 3) := by decide +kernel
theorem dX7_row_14 : decode cX7_row 14 = .ok (.ifCond .le 6, 3) := by decide +kernel
theorem dX7_row_17 : decode cX7_row 17 = .ok (.bipush (-3), 2) := by decide +kernel
theorem dX7_row_19 : decode cX7_row 19 = .ok (.ireturn, 1) := by decide +kernel
theorem dX7_row_20 : decode cX7_row 20 = .ok (.aload_n 0, 1) := by decide +kernel
theorem dX7_row_21 : decode cX7_row 21 = .ok (.getfield 22, 3) := by decide +kernel
theorem dX7_row_24 : decode cX7_row 24 = .ok (.iload_n 1, 1) := by decide +kernel
theorem dX7_row_25 : decode cX7_row 25 = .ok (.iaload, 1) := by decide +kernel
theorem dX7_row_26 : decode cX7_row 26 = .ok (.bipush 8, 2) := by decide +kernel
theorem dX7_row_28 : decode cX7_row 28 = .ok (.if_icmp .ne 6, 3) := by decide +kernel
theorem dX7_row_31 : decode cX7_row 31 = .ok (.bipush (-4), 2) := by decide +kernel
theorem dX7_row_33 : decode cX7_row 33 = .ok (.ireturn, 1) := by decide +kernel
theorem dX7_row_34 : decode cX7_row 34 = .ok (.bipush 36, 2) := by decide +kernel
theorem dX7_row_36 : decode cX7_row 36 = .ok (.iload_n 1, 1) := by decide +kernel
theorem dX7_row_37 : decode cX7_row 37 = .ok (.imul, 1) := by decide +kernel
theorem dX7_row_38 : decode cX7_row 38 = .ok (.iconst 3, 1) := by decide +kernel
theorem dX7_row_39 : decode cX7_row 39 = .ok (.aload_n 0, 1) := by decide +kernel
theorem dX7_row_40 : decode cX7_row 40 = .ok (.getfield 22, 3) := by decide +kernel
theorem dX7_row_43 : decode cX7_row 43 = .ok (.iload_n 1, 1) := by decide +kernel
theorem dX7_row_44 : decode cX7_row 44 = .ok (.iaload, 1) := by decide +kernel
theorem dX7_row_45 : decode cX7_row 45 = .ok (.imul, 1) := by decide +kernel
theorem dX7_row_46 : decode cX7_row 46 = .ok (.iadd, 1) := by decide +kernel
theorem dX7_row_47 : decode cX7_row 47 = .ok (.istore 5, 2) := by decide +kernel
theorem dX7_row_49 : decode cX7_row 49 = .ok (.aload_n 0, 1) := by decide +kernel
theorem dX7_row_50 : decode cX7_row 50 = .ok (.getfield 26, 3) := by decide +kernel
theorem dX7_row_53 : decode cX7_row 53 = .ok (.iload 5, 2) := by decide +kernel
theorem dX7_row_55 : decode cX7_row 55 = .ok (.iload_n 2, 1) := by decide +kernel
theorem dX7_row_56 : decode cX7_row 56 = .ok (.iastore, 1) := by decide +kernel
theorem dX7_row_57 : decode cX7_row 57 = .ok (.aload_n 0, 1) := by decide +kernel
theorem dX7_row_58 : decode cX7_row 58 = .ok (.getfield 26, 3) := by decide +kernel
theorem dX7_row_61 : decode cX7_row 61 = .ok (.iload 5, 2) := by decide +kernel
theorem dX7_row_63 : decode cX7_row 63 = .ok (.iconst 1, 1) := by decide +kernel
theorem dX7_row_64 : decode cX7_row 64 = .ok (.iadd, 1) := by decide +kernel
theorem dX7_row_65 : decode cX7_row 65 = .ok (.iload_n 3, 1) := by decide +kernel
theorem dX7_row_66 : decode cX7_row 66 = .ok (.iastore, 1) := by decide +kernel
theorem dX7_row_67 : decode cX7_row 67 = .ok (.aload_n 0, 1) := by decide +kernel
theorem dX7_row_68 : decode cX7_row 68 = .ok (.getfield 26, 3) := by decide +kernel
theorem dX7_row_71 : decode cX7_row 71 = .ok (.iload 5, 2) := by decide +kernel
theorem dX7_row_73 : decode cX7_row 73 = .ok (.iconst 2, 1) := by decide +kernel
theorem dX7_row_74 : decode cX7_row 74 = .ok (.iadd, 1) := by decide +kernel
theorem dX7_row_75 : decode cX7_row 75 = .ok (.iload 4, 2) := by decide +kernel
theorem dX7_row_77 : decode cX7_row 77 = .ok (.iastore, 1) := by decide +kernel
theorem dX7_row_78 : decode cX7_row 78 = .ok (.aload_n 0, 1) := by decide +kernel
theorem dX7_row_79 : decode cX7_row 79 = .ok (.getfield 22, 3) := by decide +kernel
theorem dX7_row_82 : decode cX7_row 82 = .ok (.iload_n 1, 1) := by decide +kernel
theorem dX7_row_83 : decode cX7_row 83 = .ok (.dup2, 1) := by decide +kernel
theorem dX7_row_84 : decode cX7_row 84 = .ok (.iaload, 1) := by decide +kernel
theorem dX7_row_85 : decode cX7_row 85 = .ok (.iconst 1, 1) := by decide +kernel
theorem dX7_row_86 : decode cX7_row 86 = .ok (.iadd, 1) := by decide +kernel
theorem dX7_row_87 : decode cX7_row 87 = .ok (.iastore, 1) := by decide +kernel
theorem dX7_row_88 : decode cX7_row 88 = .ok (.aload_n 0, 1) := by decide +kernel
theorem dX7_row_89 : decode cX7_row 89 = .ok (.getfield 22, 3) := by decide +kernel
theorem dX7_row_92 : decode cX7_row 92 = .ok (.iload_n 1, 1) := by decide +kernel
theorem dX7_row_93 : decode cX7_row 93 = .ok (.iaload, 1) := by decide +kernel
theorem dX7_row_94 : decode cX7_row 94 = .ok (.iconst 1, 1) := by decide +kernel
theorem dX7_row_95 : decode cX7_row 95 = .ok (.isub, 1) := by decide +kernel
theorem dX7_row_96 : decode cX7_row 96 = .ok (.ireturn, 1) := by decide +kernel
set_option maxRecDepth 20000 in
theorem ggX7_pair_X7_isTable : GoodIn wsX7_pair wsX7_isTable := goodIn_r _ [12, 13, 22, 23, 24, 25, 26, 27, 28, 29, 30, 31, 32, 33, 34, 35, 36, 37, 38, 39, 40, 41, 42, 43, 44, 45, 46, 47, 48, 49, 50, 51, 52, 53, 54, 55, 56, 57, 58, 59, 60, 61] (by decide +kernel) (by decide +kernel)
set_option maxRecDepth 20000 in
theorem gX7_pair_X7_isTable : GoodIn wsX7_pair (wsV RX7 144 RX7 yX7_isTable wsX7_isTable) := goodIn_app (goodIn_of _ (by decide +kernel)) ggX7_pair_X7_isTable
set_option maxRecDepth 20000 in
theorem ggX7_pair_X7_isColumn : GoodIn wsX7_pair wsX7_isColumn := goodIn_r _ [17] (by decide +kernel) (by decide +kernel)
set_option maxRecDepth 20000 in
theorem gX7_pair_X7_isColumn : GoodIn wsX7_pair (wsV RX7 148 RX7 yX7_isColumn wsX7_isColumn) := goodIn_app (goodIn_of _ (by decide +kernel)) ggX7_pair_X7_isColumn
set_option maxRecDepth 20000 in
theorem ggX7_pair_X7_open : GoodIn wsX7_pair wsX7_open := goodIn_r _ [21, 2, 7, 22, 23, 24, 25, 26, 27, 28, 29, 30, 31, 32, 33, 34, 35, 36, 37, 38, 39, 40, 41, 42, 43, 44, 45, 46, 47, 48, 49, 50, 51, 52, 53, 54, 55, 56, 57, 58, 59, 60, 61] (by decide +kernel) (by decide +kernel)
set_option maxRecDepth 20000 in
theorem gX7_pair_X7_open : GoodIn wsX7_pair (wsV RX7 151 RX7 yX7_open wsX7_open) := goodIn_app (goodIn_of _ (by decide +kernel)) ggX7_pair_X7_open
theorem dX7_pair_0 : decode cX7_pair 0 = .ok (.aload_n 0, 1) := by decide +kernel
theorem dX7_pair_1 : decode cX7_pair 1 = .ok (.iload_n 1, 1) := by decide +kernel
theorem dX7_pair_2 : decode cX7_pair 2 = .ok (.invokevirtual 144, 3) := by decide +kernel
theorem dX7_pair_5 : decode cX7_pair 5 = .ok (.ifCond .eq 28, 3) := by decide +kernel
theorem dX7_pair_8 : decode cX7_pair 8 = .ok (.aload_n 0, 1) := by decide +kernel
theorem dX7_pair_9 : decode cX7_pair 9 = .ok (.iload_n 2, 1) := by decide +kernel
theorem dX7_pair_10 : decode cX7_pair 10 = .ok (.invokevirtual 148, 3) := by decide +kernel
theorem dX7_pair_13 : decode cX7_pair 13 = .ok (.ifCond .eq 20, 3) := by decide +kernel
theorem dX7_pair_16 : decode cX7_pair 16 = .ok (.aload_n 0, 1) := by decide +kernel
theorem dX7_pair_17 : decode cX7_pair 17 = .ok (.iload_n 3, 1) := by decide +kernel
theorem dX7_pair_18 : decode cX7_pair 18 = .ok (.invokevirtual 144, 3) := by decide +kernel
theorem dX7_pair_21 : decode cX7_pair 21 = .ok (.ifCond .eq 12, 3) := by decide +kernel
theorem dX7_pair_24 : decode cX7_pair 24 = .ok (.aload_n 0, 1) := by decide +kernel
theorem dX7_pair_25 : decode cX7_pair 25 = .ok (.iload 4, 2) := by decide +kernel
theorem dX7_pair_27 : decode cX7_pair 27 = .ok (.invokevirtual 148, 3) := by decide +kernel
theorem dX7_pair_30 : decode cX7_pair 30 = .ok (.ifCond .ne 5, 3) := by decide +kernel
theorem dX7_pair_33 : decode cX7_pair 33 = .ok (.iconst (-1), 1) := by decide +kernel
theorem dX7_pair_34 : decode cX7_pair 34 = .ok (.ireturn, 1) := by decide +kernel
theorem dX7_pair_35 : decode cX7_pair 35 = .ok (.iload_n 3, 1) := by decide +kernel
theorem dX7_pair_36 : decode cX7_pair 36 = .ok (.iload_n 1, 1) := by decide +kernel
theorem dX7_pair_37 : decode cX7_pair 37 = .ok (.if_icmp .le 14, 3) := by decide +kernel
theorem dX7_pair_40 : decode cX7_pair 40 = .ok (.iload 5, 2) := by decide +kernel
theorem dX7_pair_42 : decode cX7_pair 42 = .ok (.ifCond .lt 9, 3) := by decide +kernel
theorem dX7_pair_45 : decode cX7_pair 45 = .ok (.iload 5, 2) := by decide +kernel
theorem dX7_pair_47 : decode cX7_pair 47 = .ok (.iconst 4, 1) := by decide +kernel
theorem dX7_pair_48 : decode cX7_pair 48 = .ok (.if_icmp .le 6, 3) := by decide +kernel
theorem dX7_pair_51 : decode cX7_pair 51 = .ok (.bipush (-2), 2) := by decide +kernel
theorem dX7_pair_53 : decode cX7_pair 53 = .ok (.ireturn, 1) := by decide +kernel
theorem dX7_pair_54 : decode cX7_pair 54 = .ok (.aload_n 0, 1) := by decide +kernel
theorem dX7_pair_55 : decode cX7_pair 55 = .ok (.getfield 44, 3) := by decide +kernel
theorem dX7_pair_58 : decode cX7_pair 58 = .ok (.ifCond .gt 15, 3) := by decide +kernel
theorem dX7_pair_61 : decode cX7_pair 61 = .ok (.iload 5, 2) := by decide +kernel
theorem dX7_pair_63 : decode cX7_pair 63 = .ok (.ifCond .ne 13, 3) := by decide +kernel
theorem dX7_pair_66 : decode cX7_pair 66 = .ok (.aload_n 0, 1) := by decide +kernel
theorem dX7_pair_67 : decode cX7_pair 67 = .ok (.invokevirtual 151, 3) := by decide +kernel
theorem dX7_pair_70 : decode cX7_pair 70 = .ok (.ifCond .lt 6, 3) := by decide +kernel
theorem dX7_pair_73 : decode cX7_pair 73 = .ok (.bipush (-3), 2) := by decide +kernel
theorem dX7_pair_75 : decode cX7_pair 75 = .ok (.ireturn, 1) := by decide +kernel
theorem dX7_pair_76 : decode cX7_pair 76 = .ok (.aload_n 0, 1) := by decide +kernel
theorem dX7_pair_77 : decode cX7_pair 77 = .ok (.getfield 13, 3) := by decide +kernel
theorem dX7_pair_80 : decode cX7_pair 80 = .ok (.iconst 4, 1) := by decide +kernel
theorem dX7_pair_81 : decode cX7_pair 81 = .ok (.if_icmp .ne 6, 3) := by decide +kernel
theorem dX7_pair_84 : decode cX7_pair 84 = .ok (.bipush (-4), 2) := by decide +kernel
theorem dX7_pair_86 : decode cX7_pair 86 = .ok (.ireturn, 1) := by decide +kernel
theorem dX7_pair_87 : decode cX7_pair 87 = .ok (.aload_n 0, 1) := by decide +kernel
theorem dX7_pair_88 : decode cX7_pair 88 = .ok (.getfield 29, 3) := by decide +kernel
theorem dX7_pair_91 : decode cX7_pair 91 = .ok (.aload_n 0, 1) := by decide +kernel
theorem dX7_pair_92 : decode cX7_pair 92 = .ok (.getfield 13, 3) := by decide +kernel
theorem dX7_pair_95 : decode cX7_pair 95 = .ok (.iload_n 1, 1) := by decide +kernel
theorem dX7_pair_96 : decode cX7_pair 96 = .ok (.iastore, 1) := by decide +kernel
theorem dX7_pair_97 : decode cX7_pair 97 = .ok (.aload_n 0, 1) := by decide +kernel
theorem dX7_pair_98 : decode cX7_pair 98 = .ok (.getfield 32, 3) := by decide +kernel
theorem dX7_pair_101 : decode cX7_pair 101 = .ok (.aload_n 0, 1) := by decide +kernel
theorem dX7_pair_102 : decode cX7_pair 102 = .ok (.getfield 13, 3) := by decide +kernel
theorem dX7_pair_105 : decode cX7_pair 105 = .ok (.iload_n 2, 1) := by decide +kernel
theorem dX7_pair_106 : decode cX7_pair 106 = .ok (.iastore, 1) := by decide +kernel
theorem dX7_pair_107 : decode cX7_pair 107 = .ok (.aload_n 0, 1) := by decide +kernel
theorem dX7_pair_108 : decode cX7_pair 108 = .ok (.getfield 35, 3) := by decide +kernel
theorem dX7_pair_111 : decode cX7_pair 111 = .ok (.aload_n 0, 1) := by decide +kernel
theorem dX7_pair_112 : decode cX7_pair 112 = .ok (.getfield 13, 3) := by decide +kernel
theorem dX7_pair_115 : decode cX7_pair 115 = .ok (.iload_n 3, 1) := by decide +kernel
theorem dX7_pair_116 : decode cX7_pair 116 = .ok (.iastore, 1) := by decide +kernel
theorem dX7_pair_117 : decode cX7_pair 117 = .ok (.aload_n 0, 1) := by decide +kernel
theorem dX7_pair_118 : decode cX7_pair 118 = .ok (.getfield 38, 3) := by decide +kernel
theorem dX7_pair_121 : decode cX7_pair 121 = .ok (.aload_n 0, 1) := by decide +kernel
theorem dX7_pair_122 : decode cX7_pair 122 = .ok (.getfield 13, 3) := by decide +kernel
theorem dX7_pair_125 : decode cX7_pair 125 = .ok (.iload 4, 2) := by decide +kernel
theorem dX7_pair_127 : decode cX7_pair 127 = .ok (.iastore, 1) := by decide +kernel
theorem dX7_pair_128 : decode cX7_pair 128 = .ok (.aload_n 0, 1) := by decide +kernel
theorem dX7_pair_129 : decode cX7_pair 129 = .ok (.getfield 41, 3) := by decide +kernel
theorem dX7_pair_132 : decode cX7_pair 132 = .ok (.aload_n 0, 1) := by decide +kernel
theorem dX7_pair_133 : decode cX7_pair 133 = .ok (.getfield 13, 3) := by decide +kernel
theorem dX7_pair_136 : decode cX7_pair 136 = .ok (.iload 5, 2) := by decide +kernel
theorem dX7_pair_138 : decode cX7_pair 138 = .ok (.iastore, 1) := by decide +kernel
theorem dX7_pair_139 : decode cX7_pair 139 = .ok (.aload_n 0, 1) := by decide +kernel
theorem dX7_pair_140 : decode cX7_pair 140 = .ok (.dup, 1) := by decide +kernel
theorem dX7_pair_141 : decode cX7_pair 141 = .ok (.getfield 13, 3) := by decide +kernel
theorem dX7_pair_144 : decode cX7_pair 144 = .ok (.iconst 1, 1) := by decide +kernel
theorem dX7_pair_145 : decode cX7_pair 145 = .ok (.iadd, 1) := by decide +kernel
theorem dX7_pair_146 : decode cX7_pair 146 = .ok (.putfield 13, 3) := by decide +kernel
theorem dX7_pair_149 : decode cX7_pair 149 = .ok (.aload_n 0, 1) := by decide +kernel
theorem dX7_pair_150 : decode cX7_pair 150 = .ok (.getfield 13, 3) := by decide +kernel
theorem dX7_pair_153 : decode cX7_pair 153 = .ok (.iconst 1, 1) := by decide +kernel
theorem dX7_pair_154 : decode cX7_pair 154 = .ok (.isub, 1) := by decide +kernel
theorem dX7_pair_155 : decode cX7_pair 155 = .ok (.ireturn, 1) := by decide +kernel
set_option maxRecDepth 20000 in
theorem ggX7_order_X7_isTable : GoodIn wsX7_order wsX7_isTable := goodIn_r _ [8, 9, 14, 15, 16, 17, 18, 19, 20, 21, 22, 23, 24, 25, 26, 27, 28, 29, 30, 31, 32, 33, 34, 35, 36, 37, 38, 39, 40, 41, 42, 43, 44, 45, 46, 47, 48, 49, 50, 51, 52, 53] (by decide +kernel) (by decide +kernel)
set_option maxRecDepth 20000 in
theorem gX7_order_X7_isTable : GoodIn wsX7_order (wsV RX7 144 RX7 yX7_isTable wsX7_isTable) := goodIn_app (goodIn_of _ (by decide +kernel)) ggX7_order_X7_isTable
set_option maxRecDepth 20000 in
theorem ggX7_order_X7_isColumn : GoodIn wsX7_order wsX7_isColumn := goodIn_r _ [13] (by decide +kernel) (by decide +kernel)
set_option maxRecDepth 20000 in
theorem gX7_order_X7_isColumn : GoodIn wsX7_order (wsV RX7 148 RX7 yX7_isColumn wsX7_isColumn) := goodIn_app (goodIn_of _ (by decide +kernel)) ggX7_order_X7_isColumn
theorem dX7_order_0 : decode cX7_order 0 = .ok (.iload_n 1, 1) := by decide +kernel
theorem dX7_order_1 : decode cX7_order 1 = .ok (.iconst (-1), 1) := by decide +kernel
theorem dX7_order_2 : decode cX7_order 2 = .ok (.if_icmp .eq 21, 3) := by decide +kernel
theorem dX7_order_5 : decode cX7_order 5 = .ok (.aload_n 0, 1) := by decide +kernel
theorem dX7_order_6 : decode cX7_order 6 = .ok (.iload_n 1, 1) := by decide +kernel
theorem dX7_order_7 : decode cX7_order 7 = .ok (.invokevirtual 144, 3) := by decide +kernel
theorem dX7_order_10 : decode cX7_order 10 = .ok (.ifCond .eq 11, 3) := by decide +kernel
theorem dX7_order_13 : decode cX7_order 13 = .ok (.aload_n 0, 1) := by decide +kernel
theorem dX7_order_14 : decode cX7_order 14 = .ok (.iload_n 2, 1) := by decide +kernel
theorem dX7_order_15 : decode cX7_order 15 = .ok (.invokevirtual 148, 3) := by decide +kernel
theorem dX7_order_18 : decode cX7_order 18 = .ok (.ifCond .ne 5, 3) := by decide +kernel
theorem dX7_order_21 : decode cX7_order 21 = .ok (.iconst (-1), 1) := by decide +kernel
theorem dX7_order_22 : decode cX7_order 22 = .ok (.ireturn, 1) := by decide +kernel
theorem dX7_order_23 : decode cX7_order 23 = .ok (.aload_n 0, 1) := by decide +kernel
theorem dX7_order_24 : decode cX7_order 24 = .ok (.getfield 44, 3) := by decide +kernel
theorem dX7_order_27 : decode cX7_order 27 = .ok (.ifCond .le 6, 3) := by decide +kernel
theorem dX7_order_30 : decode cX7_order 30 = .ok (.bipush (-3), 2) := by decide +kernel
theorem dX7_order_32 : decode cX7_order 32 = .ok (.ireturn, 1) := by decide +kernel
theorem dX7_order_33 : decode cX7_order 33 = .ok (.aload_n 0, 1) := by decide +kernel
theorem dX7_order_34 : decode cX7_order 34 = .ok (.iload_n 1, 1) := by decide +kernel
theorem dX7_order_35 : decode cX7_order 35 = .ok (.putfield 16, 3) := by decide +kernel
theorem dX7_order_38 : decode cX7_order 38 = .ok (.aload_n 0, 1) := by decide +kernel
theorem dX7_order_39 : decode cX7_order 39 = .ok (.iload_n 1, 1) := by decide +kernel
theorem dX7_order_40 : decode cX7_order 40 = .ok (.ifCond .ge 7, 3) := by decide +kernel
theorem dX7_order_43 : decode cX7_order 43 = .ok (.iconst 0, 1) := by decide +kernel
theorem dX7_order_44 : decode cX7_order 44 = .ok (.goto 4, 3) := by decide +kernel
theorem dX7_order_47 : decode cX7_order 47 = .ok (.iload_n 2, 1) := by decide +kernel
theorem dX7_order_48 : decode cX7_order 48 = .ok (.putfield 19, 3) := by decide +kernel
theorem dX7_order_51 : decode cX7_order 51 = .ok (.iconst 0, 1) := by decide +kernel
theorem dX7_order_52 : decode cX7_order 52 = .ok (.ireturn, 1) := by decide +kernel
theorem dX7_clear_0 : decode cX7_clear 0 = .ok (.aload_n 0, 1) := by decide +kernel
theorem dX7_clear_1 : decode cX7_clear 1 = .ok (.getfield 44, 3) := by decide +kernel
theorem dX7_clear_4 : decode cX7_clear 4 = .ok (.istore_n 1, 1) := by decide +kernel
theorem dX7_clear_5 : decode cX7_clear 5 = .ok (.aload_n 0, 1) := by decide +kernel
theorem dX7_clear_6 : decode cX7_clear 6 = .ok (.iconst 0, 1) := by decide +kernel
theorem dX7_clear_7 : decode cX7_clear 7 = .ok (.putfield 44, 3) := by decide +kernel
theorem dX7_clear_10 : decode cX7_clear 10 = .ok (.iload_n 1, 1) := by decide +kernel
theorem dX7_clear_11 : decode cX7_clear 11 = .ok (.ireturn, 1) := by decide +kernel
theorem dX7_size_0 : decode cX7_size 0 = .ok (.lconst 1, 1) := by decide +kernel
theorem dX7_size_1 : decode cX7_size 1 = .ok (.lstore_n 2, 1) := by decide +kernel
theorem dX7_size_2 : decode cX7_size 2 = .ok (.iconst 0, 1) := by decide +kernel
theorem dX7_size_3 : decode cX7_size 3 = .ok (.istore 4, 2) := by decide +kernel
theorem dX7_size_5 : decode cX7_size 5 = .ok (.iconst 4, 1) := by decide +kernel
theorem dX7_size_6 : decode cX7_size 6 = .ok (.istore 5, 2) := by decide +kernel
theorem dX7_size_8 : decode cX7_size 8 = .ok (.iconst 0, 1) := by decide +kernel
theorem dX7_size_9 : decode cX7_size 9 = .ok (.istore 6, 2) := by decide +kernel
theorem dX7_size_11 : decode cX7_size 11 = .ok (.iload 6, 2) := by decide +kernel
theorem dX7_size_13 : decode cX7_size 13 = .ok (.aload_n 0, 1) := by decide +kernel
theorem dX7_size_14 : decode cX7_size 14 = .ok (.getfield 7, 3) := by decide +kernel
theorem dX7_size_17 : decode cX7_size 17 = .ok (.if_icmp .ge 30, 3) := by decide +kernel
theorem dX7_size_20 : decode cX7_size 20 = .ok (.iload_n 1, 1) := by decide +kernel
theorem dX7_size_21 : decode cX7_size 21 = .ok (.iload 6, 2) := by decide +kernel
theorem dX7_size_23 : decode cX7_size 23 = .ok (.ishr, 1) := by decide +kernel
theorem dX7_size_24 : decode cX7_size 24 = .ok (.iconst 1, 1) := by decide +kernel
theorem dX7_size_25 : decode cX7_size 25 = .ok (.iand, 1) := by decide +kernel
theorem dX7_size_26 : decode cX7_size 26 = .ok (.iconst 1, 1) := by decide +kernel
theorem dX7_size_27 : decode cX7_size 27 = .ok (.if_icmp .ne 14, 3) := by decide +kernel
theorem dX7_size_30 : decode cX7_size 30 = .ok (.lload_n 2, 1) := by decide +kernel
theorem dX7_size_31 : decode cX7_size 31 = .ok (.aload_n 0, 1) := by decide +kernel
theorem dX7_size_32 : decode cX7_size 32 = .ok (.getfield 22, 3) := by decide +kernel
theorem dX7_size_35 : decode cX7_size 35 = .ok (.iload 6, 2) := by decide +kernel
theorem dX7_size_37 : decode cX7_size 37 = .ok (.iaload, 1) := by decide +kernel
theorem dX7_size_38 : decode cX7_size 38 = .ok (.i2l, 1) := by decide +kernel
theorem dX7_size_39 : decode cX7_size 39 = .ok (.lmul, 1) := by decide +kernel
theorem dX7_size_40 : decode cX7_size 40 = .ok (.lstore_n 2, 1) := by decide +kernel
theorem dX7_size_41 : decode cX7_size 41 = .ok (.iinc 6 1, 3) := by decide +kernel
theorem dX7_size_44 : decode cX7_size 44 = .ok (.goto (-33), 3) := by decide +kernel
theorem dX7_size_47 : decode cX7_size 47 = .ok (.iconst 0, 1) := by decide +kernel
theorem dX7_size_48 : decode cX7_size 48 = .ok (.istore 6, 2) := by decide +kernel
theorem dX7_size_50 : decode cX7_size 50 = .ok (.iload 6, 2) := by decide +kernel
theorem dX7_size_52 : decode cX7_size 52 = .ok (.aload_n 0, 1) := by decide +kernel
theorem dX7_size_53 : decode cX7_size 53 = .ok (.getfield 13, 3) := by decide +kernel
theorem dX7_size_56 : decode cX7_size 56 = .ok (.if_icmp .ge 70, 3) := by decide +kernel
theorem dX7_size_59 : decode cX7_size 59 = .ok (.iload_n 1, 1) := by decide +kernel
theorem dX7_size_60 : decode cX7_size 60 = .ok (.aload_n 0, 1) := by decide +kernel
theorem dX7_size_61 : decode cX7_size 61 = .ok (.getfield 29, 3) := by decide +kernel
theorem dX7_size_64 : decode cX7_size 64 = .ok (.iload 6, 2) := by decide +kernel
theorem dX7_size_66 : decode cX7_size 66 = .ok (.iaload, 1) := by decide +kernel
theorem dX7_size_67 : decode cX7_size 67 = .ok (.ishr, 1) := by decide +kernel
theorem dX7_size_68 : decode cX7_size 68 = .ok (.iconst 1, 1) := by decide +kernel
theorem dX7_size_69 : decode cX7_size 69 = .ok (.iand, 1) := by decide +kernel
theorem dX7_size_70 : decode cX7_size 70 = .ok (.ifCond .eq 50, 3) := by decide +kernel
theorem dX7_size_73 : decode cX7_size 73 = .ok (.iload_n 1, 1) := by decide +kernel
theorem dX7_size_74 : decode cX7_size 74 = .ok (.aload_n 0, 1) := by decide +kernel
theorem dX7_size_75 : decode cX7_size 75 = .ok (.getfield 35, 3) := by decide +kernel
theorem dX7_size_78 : decode cX7_size 78 = .ok (.iload 6, 2) := by decide +kernel
theorem dX7_size_80 : decode cX7_size 80 = .ok (.iaload, 1) := by decide +kernel
theorem dX7_size_81 : decode cX7_size 81 = .ok (.ishr, 1) := by decide +kernel
theorem dX7_size_82 : decode cX7_size 82 = .ok (.iconst 1, 1) := by decide +kernel
theorem dX7_size_83 : decode cX7_size 83 = .ok (.iand, 1) := by decide +kernel
theorem dX7_size_84 : decode cX7_size 84 = .ok (.ifCond .ne 6, 3) := by decide +kernel
theorem dX7_size_87 : decode cX7_size 87 = .ok (.goto 33, 3) := by decide +kernel
theorem dX7_size_90 : decode cX7_size 90 = .ok (.iinc 5 (-1), 3) := by decide +kernel
theorem dX7_size_93 : decode cX7_size 93 = .ok (.aload_n 0, 1) := by decide +kernel
theorem dX7_size_94 : decode cX7_size 94 = .ok (.getfield 41, 3) := by decide +kernel
theorem dX7_size_97 : decode cX7_size 97 = .ok (.iload 6, 2) := by decide +kernel
theorem dX7_size_99 : decode cX7_size 99 = .ok (.iaload, 1) := by decide +kernel
theorem dX7_size_100 : decode cX7_size 100 = .ok (.ifCond .ne 9, 3) := by decide +kernel
theorem dX7_size_103 : decode cX7_size 103 = .ok (.iconst 1, 1) := by decide +kernel
theorem dX7_size_104 : decode cX7_size 104 = .ok (.istore 4, 2) := by decide +kernel
theorem dX7_size_106 : decode cX7_size 106 = .ok (.goto 14, 3) := by decide +kernel
theorem dX7_size_109 : decode cX7_size 109 = .ok (.lload_n 2, 1) := by decide +kernel
theorem dX7_size_110 : decode cX7_size 110 = .ok (.aload_n 0, 1) := by decide +kernel
theorem dX7_size_111 : decode cX7_size 111 = .ok (.getfield 41, 3) := by decide +kernel
theorem dX7_size_114 : decode cX7_size 114 = .ok (.iload 6, 2) := by decide +kernel
theorem dX7_size_116 : decode cX7_size 116 = .ok (.iaload, 1) := by decide +kernel
theorem dX7_size_117 : decode cX7_size 117 = .ok (.i2l, 1) := by decide +kernel
theorem dX7_size_118 : decode cX7_size 118 = .ok (.lmul, 1) := by decide +kernel
theorem dX7_size_119 : decode cX7_size 119 = .ok (.lstore_n 2, 1) := by decide +kernel
theorem dX7_size_120 : decode cX7_size 120 = .ok (.iinc 6 1, 3) := by decide +kernel
theorem dX7_size_123 : decode cX7_size 123 = .ok (.goto (-73), 3) := by decide +kernel
theorem dX7_size_126 : decode cX7_size 126 = .ok (.iconst 0, 1) := by decide +kernel
theorem dX7_size_127 : decode cX7_size 127 = .ok (.istore 6, 2) := by decide +kernel
theorem dX7_size_129 : decode cX7_size 129 = .ok (.iload 6, 2) := by decide +kernel
theorem dX7_size_131 : decode cX7_size 131 = .ok (.iload 5, 2) := by decide +kernel
theorem dX7_size_133 : decode cX7_size 133 = .ok (.if_icmp .ge 15, 3) := by decide +kernel
theorem dX7_size_136 : decode cX7_size 136 = .ok (.lload_n 2, 1) := by decide +kernel
theorem dX7_size_137 : decode cX7_size 137 = .ok (.ldc2_w 154, 3) := by decide +kernel
theorem dX7_size_140 : decode cX7_size 140 = .ok (.lmul, 1) := by decide +kernel
theorem dX7_size_141 : decode cX7_size 141 = .ok (.lstore_n 2, 1) := by decide +kernel
theorem dX7_size_142 : decode cX7_size 142 = .ok (.iinc 6 1, 3) := by decide +kernel
theorem dX7_size_145 : decode cX7_size 145 = .ok (.goto (-16), 3) := by decide +kernel
theorem dX7_size_148 : decode cX7_size 148 = .ok (.aload_n 0, 1) := by decide +kernel
theorem dX7_size_149 : decode cX7_size 149 = .ok (.iload 4, 2) := by decide +kernel
theorem dX7_size_151 : decode cX7_size 151 = .ok (.ifCond .eq 7, 3) := by decide +kernel
theorem dX7_size_154 : decode cX7_size 154 = .ok (.lconst 0, 1) := by decide +kernel
theorem dX7_size_155 : decode cX7_size 155 = .ok (.goto 4, 3) := by decide +kernel
theorem dX7_size_158 : decode cX7_size 158 = .ok (.lload_n 2, 1) := by decide +kernel
theorem dX7_size_159 : decode cX7_size 159 = .ok (.putfield 53, 3) := by decide +kernel
theorem dX7_size_162 : decode cX7_size 162 = .ok (.aload_n 0, 1) := by decide +kernel
theorem dX7_size_163 : decode cX7_size 163 = .ok (.iload 4, 2) := by decide +kernel
theorem dX7_size_165 : decode cX7_size 165 = .ok (.ifCond .eq 7, 3) := by decide +kernel
theorem dX7_size_168 : decode cX7_size 168 = .ok (.lload_n 2, 1) := by decide +kernel
theorem dX7_size_169 : decode cX7_size 169 = .ok (.goto 4, 3) := by decide +kernel
theorem dX7_size_172 : decode cX7_size 172 = .ok (.lconst 0, 1) := by decide +kernel
theorem dX7_size_173 : decode cX7_size 173 = .ok (.putfield 57, 3) := by decide +kernel
theorem dX7_size_176 : decode cX7_size 176 = .ok (.return_, 1) := by decide +kernel
set_option maxRecDepth 20000 in
theorem ggX7_joining_X7_size : GoodIn wsX7_joining wsX7_size := goodIn_r _ [10, 11, 12, 13, 14, 15, 16, 17, 1, 2, 18, 19, 20, 21, 22, 23, 24, 25, 26, 27, 28, 29, 30, 31, 32, 33, 34, 35, 36, 37, 38, 39, 40, 41, 42, 43, 44, 45, 46, 47, 48, 49, 50, 51, 52, 53, 54, 55, 56, 57] (by decide +kernel) (by decide +kernel)
set_option maxRecDepth 20000 in
theorem gX7_joining_X7_size : GoodIn wsX7_joining (wsV RX7 156 RX7 yX7_size wsX7_size) := goodIn_app (goodIn_of _ (by decide +kernel)) ggX7_joining_X7_size
theorem dX7_joining_0 : decode cX7_joining 0 = .ok (.aload_n 0, 1) := by decide +kernel
theorem dX7_joining_1 : decode cX7_joining 1 = .ok (.iload_n 2, 1) := by decide +kernel
theorem dX7_joining_2 : decode cX7_joining 2 = .ok (.invokevirtual 156, 3) := by decide +kernel
theorem dX7_joining_5 : decode cX7_joining 5 = .ok (.aload_n 0, 1) := by decide +kernel
theorem dX7_joining_6 : decode cX7_joining 6 = .ok (.getfield 53, 3) := by decide +kernel
theorem dX7_joining_9 : decode cX7_joining 9 = .ok (.lstore 4, 2) := by decide +kernel
theorem dX7_joining_11 : decode cX7_joining 11 = .ok (.aload_n 0, 1) := by decide +kernel
theorem dX7_joining_12 : decode cX7_joining 12 = .ok (.getfield 57, 3) := by decide +kernel
theorem dX7_joining_15 : decode cX7_joining 15 = .ok (.lstore 6, 2) := by decide +kernel
theorem dX7_joining_17 : decode cX7_joining 17 = .ok (.aload_n 0, 1) := by decide +kernel
theorem dX7_joining_18 : decode cX7_joining 18 = .ok (.iload_n 3, 1) := by decide +kernel
theorem dX7_joining_19 : decode cX7_joining 19 = .ok (.invokevirtual 156, 3) := by decide +kernel
theorem dX7_joining_22 : decode cX7_joining 22 = .ok (.aload_n 0, 1) := by decide +kernel
theorem dX7_joining_23 : decode cX7_joining 23 = .ok (.getfield 53, 3) := by decide +kernel
theorem dX7_joining_26 : decode cX7_joining 26 = .ok (.lstore 8, 2) := by decide +kernel
theorem dX7_joining_28 : decode cX7_joining 28 = .ok (.aload_n 0, 1) := by decide +kernel
theorem dX7_joining_29 : decode cX7_joining 29 = .ok (.getfield 57, 3) := by decide +kernel
theorem dX7_joining_32 : decode cX7_joining 32 = .ok (.lstore 10, 2) := by decide +kernel
theorem dX7_joining_34 : decode cX7_joining 34 = .ok (.iload_n 1, 1) := by decide +kernel
theorem dX7_joining_35 : decode cX7_joining 35 = .ok (.iconst 1, 1) := by decide +kernel
theorem dX7_joining_36 : decode cX7_joining 36 = .ok (.if_icmp .ne 9, 3) := by decide +kernel
theorem dX7_joining_39 : decode cX7_joining 39 = .ok (.ldc2_w 160, 3) := by decide +kernel
theorem dX7_joining_42 : decode cX7_joining 42 = .ok (.goto 6, 3) := by decide +kernel
theorem dX7_joining_45 : decode cX7_joining 45 = .ok (.ldc2_w 162, 3) := by decide +kernel
theorem dX7_joining_48 : decode cX7_joining 48 = .ok (.lstore 12, 2) := by decide +kernel
theorem dX7_joining_50 : decode cX7_joining 50 = .ok (.aload_n 0, 1) := by decide +kernel
theorem dX7_joining_51 : decode cX7_joining 51 = .ok (.iload_n 1, 1) := by decide +kernel
theorem dX7_joining_52 : decode cX7_joining 52 = .ok (.ifCond .ne 15, 3) := by decide +kernel
theorem dX7_joining_55 : decode cX7_joining 55 = .ok (.lload 4, 2) := by decide +kernel
theorem dX7_joining_57 : decode cX7_joining 57 = .ok (.lload 8, 2) := by decide +kernel
theorem dX7_joining_59 : decode cX7_joining 59 = .ok (.lmul, 1) := by decide +kernel
theorem dX7_joining_60 : decode cX7_joining 60 = .ok (.ldc2_w 164, 3) := by decide +kernel
theorem dX7_joining_63 : decode cX7_joining 63 = .ok (.ldiv, 1) := by decide +kernel
theorem dX7_joining_64 : decode cX7_joining 64 = .ok (.goto 11, 3) := by decide +kernel
theorem dX7_joining_67 : decode cX7_joining 67 = .ok (.lload 12, 2) := by decide +kernel
theorem dX7_joining_69 : decode cX7_joining 69 = .ok (.lload 4, 2) := by decide +kernel
theorem dX7_joining_71 : decode cX7_joining 71 = .ok (.lload 8, 2) := by decide +kernel
theorem dX7_joining_73 : decode cX7_joining 73 = .ok (.ladd, 1) := by decide +kernel
theorem dX7_joining_74 : decode cX7_joining 74 = .ok (.lmul, 1) := by decide +kernel
theorem dX7_joining_75 : decode cX7_joining 75 = .ok (.putfield 53, 3) := by decide +kernel
theorem dX7_joining_78 : decode cX7_joining 78 = .ok (.aload_n 0, 1) := by decide +kernel
theorem dX7_joining_79 : decode cX7_joining 79 = .ok (.iload_n 1, 1) := by decide +kernel
