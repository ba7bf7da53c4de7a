theorem dX7_sort_28 : decode cX7_sort 28 = .ok (.iload 5, 2) := by decide +kernel
theorem dX7_sort_30 : decode cX7_sort 30 = .ok (.iload_n 3, 1) := by decide +kernel
theorem dX7_sort_31 : decode cX7_sort 31 = .ok (.if_icmp .ge 45, 3) := by decide +kernel
theorem dX7_sort_34 : decode cX7_sort 34 = .ok (.aload_n 0, 1) := by decide +kernel
theorem dX7_sort_35 : decode cX7_sort 35 = .ok (.getfield 114, 3) := by decide +kernel
theorem dX7_sort_38 : decode cX7_sort 38 = .ok (.iload 5, 2) := by decide +kernel
theorem dX7_sort_40 : decode cX7_sort 40 = .ok (.iload 5, 2) := by decide +kernel
theorem dX7_sort_42 : decode cX7_sort 42 = .ok (.iastore, 1) := by decide +kernel
theorem dX7_sort_43 : decode cX7_sort 43 = .ok (.aload_n 0, 1) := by decide +kernel
theorem dX7_sort_44 : decode cX7_sort 44 = .ok (.getfield 111, 3) := by decide +kernel
theorem dX7_sort_47 : decode cX7_sort 47 = .ok (.iload 5, 2) := by decide +kernel
theorem dX7_sort_49 : decode cX7_sort 49 = .ok (.aload_n 0, 1) := by decide +kernel
theorem dX7_sort_50 : decode cX7_sort 50 = .ok (.iload_n 1, 1) := by decide +kernel
theorem dX7_sort_51 : decode cX7_sort 51 = .ok (.aload_n 0, 1) := by decide +kernel
theorem dX7_sort_52 : decode cX7_sort 52 = .ok (.getfield 102, 3) := by decide +kernel
theorem dX7_sort_55 : decode cX7_sort 55 = .ok (.iload 4, 2) := by decide +kernel
theorem dX7_sort_57 : decode cX7_sort 57 = .ok (.iconst 4, 1) := by decide +kernel
theorem dX7_sort_58 : decode cX7_sort 58 = .ok (.iload 5, 2) := by decide +kernel
theorem dX7_sort_60 : decode cX7_sort 60 = .ok (.imul, 1) := by decide +kernel
theorem dX7_sort_61 : decode cX7_sort 61 = .ok (.iadd, 1) := by decide +kernel
theorem dX7_sort_62 : decode cX7_sort 62 = .ok (.iload_n 1, 1) := by decide +kernel
theorem dX7_sort_63 : decode cX7_sort 63 = .ok (.iadd, 1) := by decide +kernel
theorem dX7_sort_64 : decode cX7_sort 64 = .ok (.iaload, 1) := by decide +kernel
theorem dX7_sort_65 : decode cX7_sort 65 = .ok (.iload_n 2, 1) := by decide +kernel
theorem dX7_sort_66 : decode cX7_sort 66 = .ok (.invokevirtual 260, 3) := by decide +kernel
theorem dX7_sort_69 : decode cX7_sort 69 = .ok (.iastore, 1) := by decide +kernel
theorem dX7_sort_70 : decode cX7_sort 70 = .ok (.iinc 5 1, 3) := by decide +kernel
theorem dX7_sort_73 : decode cX7_sort 73 = .ok (.goto (-45), 3) := by decide +kernel
theorem dX7_sort_76 : decode cX7_sort 76 = .ok (.iconst 1, 1) := by decide +kernel
theorem dX7_sort_77 : decode cX7_sort 77 = .ok (.istore 5, 2) := by decide +kernel
theorem dX7_sort_79 : decode cX7_sort 79 = .ok (.iload 5, 2) := by decide +kernel
theorem dX7_sort_81 : decode cX7_sort 81 = .ok (.iload_n 3, 1) := by decide +kernel
theorem dX7_sort_82 : decode cX7_sort 82 = .ok (.if_icmp .ge 108, 3) := by decide +kernel
theorem dX7_sort_85 : decode cX7_sort 85 = .ok (.iconst 0, 1) := by decide +kernel
theorem dX7_sort_86 : decode cX7_sort 86 = .ok (.istore 6, 2) := by decide +kernel
theorem dX7_sort_88 : decode cX7_sort 88 = .ok (.iload 6, 2) := by decide +kernel
theorem dX7_sort_90 : decode cX7_sort 90 = .ok (.iload_n 3, 1) := by decide +kernel
theorem dX7_sort_91 : decode cX7_sort 91 = .ok (.if_icmp .ge 61, 3) := by decide +kernel
theorem dX7_sort_94 : decode cX7_sort 94 = .ok (.aload_n 0, 1) := by decide +kernel
theorem dX7_sort_95 : decode cX7_sort 95 = .ok (.iload 6, 2) := by decide +kernel
theorem dX7_sort_97 : decode cX7_sort 97 = .ok (.iload 6, 2) := by decide +kernel
theorem dX7_sort_99 : decode cX7_sort 99 = .ok (.iload 5, 2) := by decide +kernel
theorem dX7_sort_101 : decode cX7_sort 101 = .ok (.iadd, 1) := by decide +kernel
theorem dX7_sort_102 : decode cX7_sort 102 = .ok (.iload_n 3, 1) := by decide +kernel
theorem dX7_sort_103 : decode cX7_sort 103 = .ok (.if_icmp .ge 11, 3) := by decide +kernel
theorem dX7_sort_106 : decode cX7_sort 106 = .ok (.iload 6, 2) := by decide +kernel
theorem dX7_sort_108 : decode cX7_sort 108 = .ok (.iload 5, 2) := by decide +kernel
theorem dX7_sort_110 : decode cX7_sort 110 = .ok (.iadd, 1) := by decide +kernel
theorem dX7_sort_111 : decode cX7_sort 111 = .ok (.goto 4, 3) := by decide +kernel
theorem dX7_sort_114 : decode cX7_sort 114 = .ok (.iload_n 3, 1) := by decide +kernel
theorem dX7_sort_115 : decode cX7_sort 115 = .ok (.iload 6, 2) := by decide +kernel
theorem dX7_sort_117 : decode cX7_sort 117 = .ok (.iconst 2, 1) := by decide +kernel
theorem dX7_sort_118 : decode cX7_sort 118 = .ok (.iload 5, 2) := by decide +kernel
theorem dX7_sort_120 : decode cX7_sort 120 = .ok (.imul, 1) := by decide +kernel
theorem dX7_sort_121 : decode cX7_sort 121 = .ok (.iadd, 1) := by decide +kernel
theorem dX7_sort_122 : decode cX7_sort 122 = .ok (.iload_n 3, 1) := by decide +kernel
theorem dX7_sort_123 : decode cX7_sort 123 = .ok (.if_icmp .ge 13, 3) := by decide +kernel
theorem dX7_sort_126 : decode cX7_sort 126 = .ok (.iload 6, 2) := by decide +kernel
theorem dX7_sort_128 : decode cX7_sort 128 = .ok (.iconst 2, 1) := by decide +kernel
theorem dX7_sort_129 : decode cX7_sort 129 = .ok (.iload 5, 2) := by decide +kernel
theorem dX7_sort_131 : decode cX7_sort 131 = .ok (.imul, 1) := by decide +kernel
theorem dX7_sort_132 : decode cX7_sort 132 = .ok (.iadd, 1) := by decide +kernel
theorem dX7_sort_133 : decode cX7_sort 133 = .ok (.goto 4, 3) := by decide +kernel
theorem dX7_sort_136 : decode cX7_sort 136 = .ok (.iload_n 3, 1) := by decide +kernel
theorem dX7_sort_137 : decode cX7_sort 137 = .ok (.invokevirtual 271, 3) := by decide +kernel
theorem dX7_sort_140 : decode cX7_sort 140 = .ok (.iload 6, 2) := by decide +kernel
theorem dX7_sort_142 : decode cX7_sort 142 = .ok (.iconst 2, 1) := by decide +kernel
theorem dX7_sort_143 : decode cX7_sort 143 = .ok (.iload 5, 2) := by decide +kernel
theorem dX7_sort_145 : decode cX7_sort 145 = .ok (.imul, 1) := by decide +kernel
theorem dX7_sort_146 : decode cX7_sort 146 = .ok (.iadd, 1) := by decide +kernel
theorem dX7_sort_147 : decode cX7_sort 147 = .ok (.istore 6, 2) := by decide +kernel
theorem dX7_sort_149 : decode cX7_sort 149 = .ok (.goto (-61), 3) := by decide +kernel
theorem dX7_sort_152 : decode cX7_sort 152 = .ok (.iconst 0, 1) := by decide +kernel
theorem dX7_sort_153 : decode cX7_sort 153 = .ok (.istore 6, 2) := by decide +kernel
theorem dX7_sort_155 : decode cX7_sort 155 = .ok (.iload 6, 2) := by decide +kernel
theorem dX7_sort_157 : decode cX7_sort 157 = .ok (.iload_n 3, 1) := by decide +kernel
theorem dX7_sort_158 : decode cX7_sort 158 = .ok (.if_icmp .ge 23, 3) := by decide +kernel
theorem dX7_sort_161 : decode cX7_sort 161 = .ok (.aload_n 0, 1) := by decide +kernel
theorem dX7_sort_162 : decode cX7_sort 162 = .ok (.getfield 114, 3) := by decide +kernel
theorem dX7_sort_165 : decode cX7_sort 165 = .ok (.iload 6, 2) := by decide +kernel
theorem dX7_sort_167 : decode cX7_sort 167 = .ok (.aload_n 0, 1) := by decide +kernel
theorem dX7_sort_168 : decode cX7_sort 168 = .ok (.getfield 117, 3) := by decide +kernel
theorem dX7_sort_171 : decode cX7_sort 171 = .ok (.iload 6, 2) := by decide +kernel
theorem dX7_sort_173 : decode cX7_sort 173 = .ok (.iaload, 1) := by decide +kernel
theorem dX7_sort_174 : decode cX7_sort 174 = .ok (.iastore, 1) := by decide +kernel
theorem dX7_sort_175 : decode cX7_sort 175 = .ok (.iinc 6 1, 3) := by decide +kernel
theorem dX7_sort_178 : decode cX7_sort 178 = .ok (.goto (-23), 3) := by decide +kernel
theorem dX7_sort_181 : decode cX7_sort 181 = .ok (.iload 5, 2) := by decide +kernel
theorem dX7_sort_183 : decode cX7_sort 183 = .ok (.iconst 2, 1) := by decide +kernel
theorem dX7_sort_184 : decode cX7_sort 184 = .ok (.imul, 1) := by decide +kernel
theorem dX7_sort_185 : decode cX7_sort 185 = .ok (.istore 5, 2) := by decide +kernel
theorem dX7_sort_187 : decode cX7_sort 187 = .ok (.goto (-108), 3) := by decide +kernel
theorem dX7_sort_190 : decode cX7_sort 190 = .ok (.iconst 0, 1) := by decide +kernel
theorem dX7_sort_191 : decode cX7_sort 191 = .ok (.istore 5, 2) := by decide +kernel
theorem dX7_sort_193 : decode cX7_sort 193 = .ok (.iload 5, 2) := by decide +kernel
theorem dX7_sort_195 : decode cX7_sort 195 = .ok (.iload_n 3, 1) := by decide +kernel
theorem dX7_sort_196 : decode cX7_sort 196 = .ok (.if_icmp .ge 56, 3) := by decide +kernel
theorem dX7_sort_199 : decode cX7_sort 199 = .ok (.iconst 0, 1) := by decide +kernel
theorem dX7_sort_200 : decode cX7_sort 200 = .ok (.istore 6, 2) := by decide +kernel
theorem dX7_sort_202 : decode cX7_sort 202 = .ok (.iload 6, 2) := by decide +kernel
theorem dX7_sort_204 : decode cX7_sort 204 = .ok (.iconst 4, 1) := by decide +kernel
theorem dX7_sort_205 : decode cX7_sort 205 = .ok (.if_icmp .ge 41, 3) := by decide +kernel
theorem dX7_sort_208 : decode cX7_sort 208 = .ok (.aload_n 0, 1) := by decide +kernel
theorem dX7_sort_209 : decode cX7_sort 209 = .ok (.getfield 121, 3) := by decide +kernel
theorem dX7_sort_212 : decode cX7_sort 212 = .ok (.iconst 4, 1) := by decide +kernel
theorem dX7_sort_213 : decode cX7_sort 213 = .ok (.iload 5, 2) := by decide +kernel
theorem dX7_sort_215 : decode cX7_sort 215 = .ok (.imul, 1) := by decide +kernel
theorem dX7_sort_216 : decode cX7_sort 216 = .ok (.iload 6, 2) := by decide +kernel
theorem dX7_sort_218 : decode cX7_sort 218 = .ok (.iadd, 1) := by decide +kernel
theorem dX7_sort_219 : decode cX7_sort 219 = .ok (.aload_n 0, 1) := by decide +kernel
theorem dX7_sort_220 : decode cX7_sort 220 = .ok (.getfield 102, 3) := by decide +kernel
theorem dX7_sort_223 : decode cX7_sort 223 = .ok (.iload 4, 2) := by decide +kernel
theorem dX7_sort_225 : decode cX7_sort 225 = .ok (.iconst 4, 1) := by decide +kernel
theorem dX7_sort_226 : decode cX7_sort 226 = .ok (.aload_n 0, 1) := by decide +kernel
theorem dX7_sort_227 : decode cX7_sort 227 = .ok (.getfield 114, 3) := by decide +kernel
theorem dX7_sort_230 : decode cX7_sort 230 = .ok (.iload 5, 2) := by decide +kernel
theorem dX7_sort_232 : decode cX7_sort 232 = .ok (.iaload, 1) := by decide +kernel
theorem dX7_sort_233 : decode cX7_sort 233 = .ok (.imul, 1) := by decide +kernel
theorem dX7_sort_234 : decode cX7_sort 234 = .ok (.iadd, 1) := by decide +kernel
theorem dX7_sort_235 : decode cX7_sort 235 = .ok (.iload 6, 2) := by decide +kernel
theorem dX7_sort_237 : decode cX7_sort 237 = .ok (.iadd, 1) := by decide +kernel
theorem dX7_sort_238 : decode cX7_sort 238 = .ok (.iaload, 1) := by decide +kernel
theorem dX7_sort_239 : decode cX7_sort 239 = .ok (.iastore, 1) := by decide +kernel
theorem dX7_sort_240 : decode cX7_sort 240 = .ok (.iinc 6 1, 3) := by decide +kernel
theorem dX7_sort_243 : decode cX7_sort 243 = .ok (.goto (-41), 3) := by decide +kernel
theorem dX7_sort_246 : decode cX7_sort 246 = .ok (.iinc 5 1, 3) := by decide +kernel
theorem dX7_sort_249 : decode cX7_sort 249 = .ok (.goto (-56), 3) := by decide +kernel
theorem dX7_sort_252 : decode cX7_sort 252 = .ok (.iconst 0, 1) := by decide +kernel
theorem dX7_sort_253 : decode cX7_sort 253 = .ok (.istore 5, 2) := by decide +kernel
theorem dX7_sort_255 : decode cX7_sort 255 = .ok (.iload 5, 2) := by decide +kernel
theorem dX7_sort_257 : decode cX7_sort 257 = .ok (.iconst 4, 1) := by decide +kernel
theorem dX7_sort_258 : decode cX7_sort 258 = .ok (.iload_n 3, 1) := by decide +kernel
theorem dX7_sort_259 : decode cX7_sort 259 = .ok (.imul, 1) := by decide +kernel
theorem dX7_sort_260 : decode cX7_sort 260 = .ok (.if_icmp .ge 26, 3) := by decide +kernel
theorem dX7_sort_263 : decode cX7_sort 263 = .ok (.aload_n 0, 1) := by decide +kernel
theorem dX7_sort_264 : decode cX7_sort 264 = .ok (.getfield 102, 3) := by decide +kernel
theorem dX7_sort_267 : decode cX7_sort 267 = .ok (.iload 4, 2) := by decide +kernel
theorem dX7_sort_269 : decode cX7_sort 269 = .ok (.iload 5, 2) := by decide +kernel
theorem dX7_sort_271 : decode cX7_sort 271 = .ok (.iadd, 1) := by decide +kernel
theorem dX7_sort_272 : decode cX7_sort 272 = .ok (.aload_n 0, 1) := by decide +kernel
theorem dX7_sort_273 : decode cX7_sort 273 = .ok (.getfield 121, 3) := by decide +kernel
theorem dX7_sort_276 : decode cX7_sort 276 = .ok (.iload 5, 2) := by decide +kernel
theorem dX7_sort_278 : decode cX7_sort 278 = .ok (.iaload, 1) := by decide +kernel
theorem dX7_sort_279 : decode cX7_sort 279 = .ok (.iastore, 1) := by decide +kernel
theorem dX7_sort_280 : decode cX7_sort 280 = .ok (.iinc 5 1, 3) := by decide +kernel
theorem dX7_sort_283 : decode cX7_sort 283 = .ok (.goto (-28), 3) := by decide +kernel
theorem dX7_sort_286 : decode cX7_sort 286 = .ok (.return_, 1) := by decide +kernel
theorem dX7_merge_0 : decode cX7_merge 0 = .ok (.iload_n 1, 1) := by decide +kernel
theorem dX7_merge_1 : decode cX7_merge 1 = .ok (.istore 4, 2) := by decide +kernel
theorem dX7_merge_3 : decode cX7_merge 3 = .ok (.iload_n 2, 1) := by decide +kernel
theorem dX7_merge_4 : decode cX7_merge 4 = .ok (.istore 5, 2) := by decide +kernel
theorem dX7_merge_6 : decode cX7_merge 6 = .ok (.iload_n 1, 1) := by decide +kernel
theorem dX7_merge_7 : decode cX7_merge 7 = .ok (.istore 6, 2) := by decide +kernel
theorem dX7_merge_9 : decode cX7_merge 9 = .ok (.iload 6, 2) := by decide +kernel
theorem dX7_merge_11 : decode cX7_merge 11 = .ok (.iload_n 3, 1) := by decide +kernel
theorem dX7_merge_12 : decode cX7_merge 12 = .ok (.if_icmp .ge 114, 3) := by decide +kernel
theorem dX7_merge_15 : decode cX7_merge 15 = .ok (.iload 5, 2) := by decide +kernel
theorem dX7_merge_17 : decode cX7_merge 17 = .ok (.iload_n 3, 1) := by decide +kernel
theorem dX7_merge_18 : decode cX7_merge 18 = .ok (.if_icmp .eq 36, 3) := by decide +kernel
theorem dX7_merge_21 : decode cX7_merge 21 = .ok (.iload 4, 2) := by decide +kernel
theorem dX7_merge_23 : decode cX7_merge 23 = .ok (.iload_n 2, 1) := by decide +kernel
theorem dX7_merge_24 : decode cX7_merge 24 = .ok (.if_icmp .ge 34, 3) := by decide +kernel
theorem dX7_merge_27 : decode cX7_merge 27 = .ok (.aload_n 0, 1) := by decide +kernel
theorem dX7_merge_28 : decode cX7_merge 28 = .ok (.getfield 111, 3) := by decide +kernel
theorem dX7_merge_31 : decode cX7_merge 31 = .ok (.aload_n 0, 1) := by decide +kernel
theorem dX7_merge_32 : decode cX7_merge 32 = .ok (.getfield 114, 3) := by decide +kernel
theorem dX7_merge_35 : decode cX7_merge 35 = .ok (.iload 4, 2) := by decide +kernel
theorem dX7_merge_37 : decode cX7_merge 37 = .ok (.iaload, 1) := by decide +kernel
theorem dX7_merge_38 : decode cX7_merge 38 = .ok (.iaload, 1) := by decide +kernel
theorem dX7_merge_39 : decode cX7_merge 39 = .ok (.aload_n 0, 1) := by decide +kernel
theorem dX7_merge_40 : decode cX7_merge 40 = .ok (.getfield 111, 3) := by decide +kernel
theorem dX7_merge_43 : decode cX7_merge 43 = .ok (.aload_n 0, 1) := by decide +kernel
theorem dX7_merge_44 : decode cX7_merge 44 = .ok (.getfield 114, 3) := by decide +kernel
theorem dX7_merge_47 : decode cX7_merge 47 = .ok (.iload 5, 2) := by decide +kernel
theorem dX7_merge_49 : decode cX7_merge 49 = .ok (.iaload, 1) := by decide +kernel
theorem dX7_merge_50 : decode cX7_merge 50 = .ok (.iaload, 1) := by decide +kernel
theorem dX7_merge_51 : decode cX7_merge 51 = .ok (.if_icmp .gt 7, 3) := by decide +kernel
theorem dX7_merge_54 : decode cX7_merge 54 = .ok (.iconst 1, 1) := by decide +kernel
theorem dX7_merge_55 : decode cX7_merge 55 = .ok (.goto 4, 3) := by decide +kernel
theorem dX7_merge_58 : decode cX7_merge 58 = .ok (.iconst 0, 1) := by decide +kernel
theorem dX7_merge_59 : decode cX7_merge 59 = .ok (.istore 7, 2) := by decide +kernel
theorem dX7_merge_61 : decode cX7_merge 61 = .ok (.aload_n 0, 1) := by decide +kernel
theorem dX7_merge_62 : decode cX7_merge 62 = .ok (.getfield 117, 3) := by decide +kernel
theorem dX7_merge_65 : decode cX7_merge 65 = .ok (.iload 6, 2) := by decide +kernel
theorem dX7_merge_67 : decode cX7_merge 67 = .ok (.iload 7, 2) := by decide +kernel
theorem dX7_merge_69 : decode cX7_merge 69 = .ok (.ifCond .eq 13, 3) := by decide +kernel
theorem dX7_merge_72 : decode cX7_merge 72 = .ok (.aload_n 0, 1) := by decide +kernel
theorem dX7_merge_73 : decode cX7_merge 73 = .ok (.getfield 114, 3) := by decide +kernel
theorem dX7_merge_76 : decode cX7_merge 76 = .ok (.iload 4, 2) := by decide +kernel
theorem dX7_merge_78 : decode cX7_merge 78 = .ok (.iaload, 1) := by decide +kernel
theorem dX7_merge_79 : decode cX7_merge 79 = .ok (.goto 10, 3) := by decide +kernel
theorem dX7_merge_82 : decode cX7_merge 82 = .ok (.aload_n 0, 1) := by decide +kernel
theorem dX7_merge_83 : decode cX7_merge 83 = .ok (.getfield 114, 3) := by decide +kernel
theorem dX7_merge_86 : decode cX7_merge 86 = .ok (.iload 5, 2) := by decide +kernel
theorem dX7_merge_88 : decode cX7_merge 88 = .ok (.iaload, 1) := by decide +kernel
theorem dX7_merge_89 : decode cX7_merge 89 = .ok (.iastore, 1) := by decide +kernel
theorem dX7_merge_90 : decode cX7_merge 90 = .ok (.iload 4, 2) := by decide +kernel
theorem dX7_merge_92 : decode cX7_merge 92 = .ok (.iload 7, 2) := by decide +kernel
theorem dX7_merge_94 : decode cX7_merge 94 = .ok (.ifCond .eq 7, 3) := by decide +kernel
theorem dX7_merge_97 : decode cX7_merge 97 = .ok (.iconst 1, 1) := by decide +kernel
theorem dX7_merge_98 : decode cX7_merge 98 = .ok (.goto 4, 3) := by decide +kernel
theorem dX7_merge_101 : decode cX7_merge 101 = .ok (.iconst 0, 1) := by decide +kernel
theorem dX7_merge_102 : decode cX7_merge 102 = .ok (.iadd, 1) := by decide +kernel
theorem dX7_merge_103 : decode cX7_merge 103 = .ok (.istore 4, 2) := by decide +kernel
theorem dX7_merge_105 : decode cX7_merge 105 = .ok (.iload 5, 2) := by decide +kernel
theorem dX7_merge_107 : decode cX7_merge 107 = .ok (.iload 7, 2) := by decide +kernel
theorem dX7_merge_109 : decode cX7_merge 109 = .ok (.ifCond .eq 7, 3) := by decide +kernel
theorem dX7_merge_112 : decode cX7_merge 112 = .ok (.iconst 0, 1) := by decide +kernel
theorem dX7_merge_113 : decode cX7_merge 113 = .ok (.goto 4, 3) := by decide +kernel
theorem dX7_merge_116 : decode cX7_merge 116 = .ok (.iconst 1, 1) := by decide +kernel
theorem dX7_merge_117 : decode cX7_merge 117 = .ok (.iadd, 1) := by decide +kernel
theorem dX7_merge_118 : decode cX7_merge 118 = .ok (.istore 5, 2) := by decide +kernel
theorem dX7_merge_120 : decode cX7_merge 120 = .ok (.iinc 6 1, 3) := by decide +kernel
theorem dX7_merge_123 : decode cX7_merge 123 = .ok (.goto (-114), 3) := by decide +kernel
theorem dX7_merge_126 : decode cX7_merge 126 = .ok (.return_, 1) := by decide +kernel
set_option maxRecDepth 20000 in
theorem ggX7_run_X7_isPlan : GoodIn wsX7_run wsX7_isPlan := goodIn_r _ [14, 15, 145, 146, 147, 148, 149, 150, 151, 152, 153, 154, 155, 156, 157, 158, 159, 160, 161, 162, 163, 164, 165, 166, 167, 168, 169, 170, 171, 172, 173, 174, 175, 176, 177, 178, 179, 180, 181, 182, 183, 184] (by decide +kernel) (by decide +kernel)
set_option maxRecDepth 20000 in
theorem gX7_run_X7_isPlan : GoodIn wsX7_run (wsV RX7 210 RX7 yX7_isPlan wsX7_isPlan) := goodIn_app (goodIn_of _ (by decide +kernel)) ggX7_run_X7_isPlan
set_option maxRecDepth 20000 in
theorem ggX7_run_X7_digits : GoodIn wsX7_run wsX7_digits := goodIn_r _ [19, 20, 21, 22, 13, 23] (by decide +kernel) (by decide +kernel)
set_option maxRecDepth 20000 in
theorem gX7_run_X7_digits : GoodIn wsX7_run (wsV RX7 193 RX7 yX7_digits wsX7_digits) := goodIn_app (goodIn_of _ (by decide +kernel)) ggX7_run_X7_digits
set_option maxRecDepth 20000 in
theorem ggX7_run_X7_code : GoodIn wsX7_run wsX7_code := goodIn_r _ [27, 3, 28, 10, 11, 12, 13, 14, 15, 16, 17, 18, 19, 20, 21, 22, 23, 145, 146, 147, 148, 149, 150, 151, 152, 153, 154, 155, 156, 157, 158, 159, 160, 161, 162, 163, 164, 165, 166, 167, 168, 169, 170, 171, 172, 173, 174, 175, 176, 177, 178, 179, 180, 181, 182, 183, 184] (by decide +kernel) (by decide +kernel)
set_option maxRecDepth 20000 in
theorem gX7_run_X7_code : GoodIn wsX7_run (wsV RX7 274 RX7 yX7_code wsX7_code) := goodIn_app (goodIn_of _ (by decide +kernel)) ggX7_run_X7_code
set_option maxRecDepth 20000 in
theorem ggX7_run_X7_readAll : GoodIn wsX7_run wsX7_readAll := goodIn_r _ [32, 5, 1, 33, 34, 9, 2, 35, 36, 37, 13, 38, 39, 145, 146, 147, 148, 149, 150, 151, 152, 153, 154, 155, 156, 157, 158, 159, 160, 161, 162, 163, 164, 165, 166, 167, 168, 169, 170, 171, 172, 173, 174, 175, 176, 177, 178, 179, 180, 181, 182, 183, 184] (by decide +kernel) (by decide +kernel)
set_option maxRecDepth 20000 in
theorem gX7_run_X7_readAll : GoodIn wsX7_run (wsV RX7 276 RX7 yX7_readAll wsX7_readAll) := goodIn_app (goodIn_of _ (by decide +kernel)) ggX7_run_X7_readAll
set_option maxRecDepth 20000 in
theorem ggX7_run_X7_joinTop : GoodIn wsX7_run wsX7_joinTop := goodIn_r _ [43, 1, 5, 34, 44, 9, 2, 45, 46, 35, 36, 37, 13, 38, 39, 47, 48, 49, 50, 51, 52, 53, 54, 55, 56, 57, 58, 59, 60, 61, 62, 63, 64, 65, 66, 67, 68, 69, 70, 71, 72, 73, 74, 75, 76, 77, 145, 146, 147, 148, 149, 150, 151, 152, 153, 154, 155, 156, 157, 158, 159, 160, 161, 162, 163, 164, 165, 166, 167, 168, 169, 170, 171, 172, 173, 174, 175, 176, 177, 178, 179, 180, 181, 182, 183, 184] (by decide +kernel) (by decide +kernel)
set_option maxRecDepth 20000 in
theorem gX7_run_X7_joinTop : GoodIn wsX7_run (wsV RX7 279 RX7 yX7_joinTop wsX7_joinTop) := goodIn_app (goodIn_of _ (by decide +kernel)) ggX7_run_X7_joinTop
set_option maxRecDepth 20000 in
theorem ggX7_run_X7_isWholePlan : GoodIn wsX7_run wsX7_isWholePlan := goodIn_r _ [81, 3, 82, 83, 84, 13, 85, 86, 145, 146, 147, 148, 149, 150, 151, 152, 153, 154, 155, 156, 157, 158, 159, 160, 161, 162, 163, 164, 165, 166, 167, 168, 169, 170, 171, 172, 173, 174, 175, 176, 177, 178, 179, 180, 181, 182, 183, 184] (by decide +kernel) (by decide +kernel)
set_option maxRecDepth 20000 in
theorem gX7_run_X7_isWholePlan : GoodIn wsX7_run (wsV RX7 219 RX7 yX7_isWholePlan wsX7_isWholePlan) := goodIn_app (goodIn_of _ (by decide +kernel)) ggX7_run_X7_isWholePlan
set_option maxRecDepth 20000 in
theorem ggX7_run_X7_about : GoodIn wsX7_run wsX7_about := goodIn_r _ [90, 3, 4, 28, 91, 92, 10, 11, 12, 13, 14, 15, 20, 21, 22, 23, 93, 94, 95, 96, 97, 98, 86, 99, 33, 82, 83, 84, 85, 100, 101, 102, 103, 104, 105, 106, 63, 64, 65, 66, 51, 54, 55, 56, 57, 45, 52, 107, 108, 109, 110, 111, 112, 113, 114, 115, 116, 117, 118, 119, 120, 121, 122, 123, 124, 125, 126, 127, 128, 16, 17, 18, 19, 129, 130, 131, 132, 133, 134, 135, 136, 137, 138, 139, 140, 46, 6, 53, 141, 142, 143, 144, 78, 79, 80, 81, 145, 146, 147, 148, 149, 150, 151, 152, 153, 154, 155, 156, 157, 158, 159, 160, 161, 162, 163, 164, 165, 166, 167, 168, 169, 170, 171, 172, 173, 174, 175, 176, 177, 178, 179, 180, 181, 182, 183, 184] (by decide +kernel) (by decide +kernel)
set_option maxRecDepth 20000 in
theorem gX7_run_X7_about : GoodIn wsX7_run (wsV RX7 282 RX7 yX7_about wsX7_about) := goodIn_app (goodIn_of _ (by decide +kernel)) ggX7_run_X7_about
set_option maxRecDepth 20000 in
theorem ggX7_run_X7_sort : GoodIn wsX7_run wsX7_sort := goodIn_r _ [70, 5, 1, 71, 72, 9, 73, 44, 35, 36, 37, 13, 38, 39, 58, 59, 60, 61, 62, 74, 75, 76, 77, 145, 146, 147, 148, 149, 150, 151, 152, 153, 154, 155, 156, 157, 158, 159, 160, 161, 162, 163, 164, 165, 166, 167, 168, 169, 170, 171, 172, 173, 174, 175, 176, 177, 178, 179, 180, 181, 182, 183, 184] (by decide +kernel) (by decide +kernel)
set_option maxRecDepth 20000 in
theorem gX7_run_X7_sort : GoodIn wsX7_run (wsV RX7 268 RX7 yX7_sort wsX7_sort) := goodIn_app (goodIn_of _ (by decide +kernel)) ggX7_run_X7_sort
theorem dX7_run_0 : decode cX7_run 0 = .ok (.aload_n 0, 1) := by decide +kernel
theorem dX7_run_1 : decode cX7_run 1 = .ok (.iload_n 1, 1) := by decide +kernel
theorem dX7_run_2 : decode cX7_run 2 = .ok (.invokevirtual 210, 3) := by decide +kernel
theorem dX7_run_5 : decode cX7_run 5 = .ok (.ifCond .ne 5, 3) := by decide +kernel
theorem dX7_run_8 : decode cX7_run 8 = .ok (.iconst (-1), 1) := by decide +kernel
theorem dX7_run_9 : decode cX7_run 9 = .ok (.ireturn, 1) := by decide +kernel
theorem dX7_run_10 : decode cX7_run 10 = .ok (.aload_n 0, 1) := by decide +kernel
theorem dX7_run_11 : decode cX7_run 11 = .ok (.iconst 0, 1) := by decide +kernel
theorem dX7_run_12 : decode cX7_run 12 = .ok (.putfield 124, 3) := by decide +kernel
theorem dX7_run_15 : decode cX7_run 15 = .ok (.aload_n 0, 1) := by decide +kernel
theorem dX7_run_16 : decode cX7_run 16 = .ok (.iconst 0, 1) := by decide +kernel
theorem dX7_run_17 : decode cX7_run 17 = .ok (.putfield 127, 3) := by decide +kernel
theorem dX7_run_20 : decode cX7_run 20 = .ok (.aload_n 0, 1) := by decide +kernel
theorem dX7_run_21 : decode cX7_run 21 = .ok (.aload_n 0, 1) := by decide +kernel
theorem dX7_run_22 : decode cX7_run 22 = .ok (.getfield 50, 3) := by decide +kernel
theorem dX7_run_25 : decode cX7_run 25 = .ok (.iload_n 1, 1) := by decide +kernel
theorem dX7_run_26 : decode cX7_run 26 = .ok (.iaload, 1) := by decide +kernel
theorem dX7_run_27 : decode cX7_run 27 = .ok (.invokevirtual 193, 3) := by decide +kernel
theorem dX7_run_30 : decode cX7_run 30 = .ok (.istore_n 2, 1) := by decide +kernel
theorem dX7_run_31 : decode cX7_run 31 = .ok (.iload_n 2, 1) := by decide +kernel
theorem dX7_run_32 : decode cX7_run 32 = .ok (.iconst 1, 1) := by decide +kernel
theorem dX7_run_33 : decode cX7_run 33 = .ok (.isub, 1) := by decide +kernel
theorem dX7_run_34 : decode cX7_run 34 = .ok (.istore_n 3, 1) := by decide +kernel
theorem dX7_run_35 : decode cX7_run 35 = .ok (.iload_n 3, 1) := by decide +kernel
theorem dX7_run_36 : decode cX7_run 36 = .ok (.ifCond .lt 40, 3) := by decide +kernel
theorem dX7_run_39 : decode cX7_run 39 = .ok (.aload_n 0, 1) := by decide +kernel
theorem dX7_run_40 : decode cX7_run 40 = .ok (.iload_n 1, 1) := by decide +kernel
theorem dX7_run_41 : decode cX7_run 41 = .ok (.iload_n 3, 1) := by decide +kernel
theorem dX7_run_42 : decode cX7_run 42 = .ok (.invokevirtual 274, 3) := by decide +kernel
theorem dX7_run_45 : decode cX7_run 45 = .ok (.istore 4, 2) := by decide +kernel
theorem dX7_run_47 : decode cX7_run 47 = .ok (.iload 4, 2) := by decide +kernel
theorem dX7_run_49 : decode cX7_run 49 = .ok (.iconst 4, 1) := by decide +kernel
theorem dX7_run_50 : decode cX7_run 50 = .ok (.if_icmp .ge 12, 3) := by decide +kernel
theorem dX7_run_53 : decode cX7_run 53 = .ok (.aload_n 0, 1) := by decide +kernel
theorem dX7_run_54 : decode cX7_run 54 = .ok (.iload 4, 2) := by decide +kernel
theorem dX7_run_56 : decode cX7_run 56 = .ok (.invokevirtual 276, 3) := by decide +kernel
theorem dX7_run_59 : decode cX7_run 59 = .ok (.goto 11, 3) := by decide +kernel
theorem dX7_run_62 : decode cX7_run 62 = .ok (.aload_n 0, 1) := by decide +kernel
theorem dX7_run_63 : decode cX7_run 63 = .ok (.iload 4, 2) := by decide +kernel
theorem dX7_run_65 : decode cX7_run 65 = .ok (.iconst 4, 1) := by decide +kernel
theorem dX7_run_66 : decode cX7_run 66 = .ok (.isub, 1) := by decide +kernel
theorem dX7_run_67 : decode cX7_run 67 = .ok (.invokevirtual 279, 3) := by decide +kernel
theorem dX7_run_70 : decode cX7_run 70 = .ok (.iinc 3 (-1), 3) := by decide +kernel
theorem dX7_run_73 : decode cX7_run 73 = .ok (.goto (-38), 3) := by decide +kernel
theorem dX7_run_76 : decode cX7_run 76 = .ok (.aload_n 0, 1) := by decide +kernel
theorem dX7_run_77 : decode cX7_run 77 = .ok (.iload_n 1, 1) := by decide +kernel
theorem dX7_run_78 : decode cX7_run 78 = .ok (.invokevirtual 219, 3) := by decide +kernel
theorem dX7_run_81 : decode cX7_run 81 = .ok (.ifCond .eq 48, 3) := by decide +kernel
theorem dX7_run_84 : decode cX7_run 84 = .ok (.aload_n 0, 1) := by decide +kernel
theorem dX7_run_85 : decode cX7_run 85 = .ok (.getfield 16, 3) := by decide +kernel
theorem dX7_run_88 : decode cX7_run 88 = .ok (.ifCond .lt 41, 3) := by decide +kernel
theorem dX7_run_91 : decode cX7_run 91 = .ok (.aload_n 0, 1) := by decide +kernel
theorem dX7_run_92 : decode cX7_run 92 = .ok (.iload_n 1, 1) := by decide +kernel
theorem dX7_run_93 : decode cX7_run 93 = .ok (.iconst 2, 1) := by decide +kernel
theorem dX7_run_94 : decode cX7_run 94 = .ok (.invokevirtual 282, 3) := by decide +kernel
theorem dX7_run_97 : decode cX7_run 97 = .ok (.ifCond .ne 32, 3) := by decide +kernel
theorem dX7_run_100 : decode cX7_run 100 = .ok (.aload_n 0, 1) := by decide +kernel
theorem dX7_run_101 : decode cX7_run 101 = .ok (.dup, 1) := by decide +kernel
theorem dX7_run_102 : decode cX7_run 102 = .ok (.getfield 127, 3) := by decide +kernel
theorem dX7_run_105 : decode cX7_run 105 = .ok (.iconst 3, 1) := by decide +kernel
theorem dX7_run_106 : decode cX7_run 106 = .ok (.aload_n 0, 1) := by decide +kernel
theorem dX7_run_107 : decode cX7_run 107 = .ok (.getfield 105, 3) := by decide +kernel
theorem dX7_run_110 : decode cX7_run 110 = .ok (.iconst 0, 1) := by decide +kernel
theorem dX7_run_111 : decode cX7_run 111 = .ok (.iaload, 1) := by decide +kernel
theorem dX7_run_112 : decode cX7_run 112 = .ok (.imul, 1) := by decide +kernel
theorem dX7_run_113 : decode cX7_run 113 = .ok (.iadd, 1) := by decide +kernel
theorem dX7_run_114 : decode cX7_run 114 = .ok (.putfield 127, 3) := by decide +kernel
theorem dX7_run_117 : decode cX7_run 117 = .ok (.aload_n 0, 1) := by decide +kernel
theorem dX7_run_118 : decode cX7_run 118 = .ok (.aload_n 0, 1) := by decide +kernel
theorem dX7_run_119 : decode cX7_run 119 = .ok (.getfield 16, 3) := by decide +kernel
theorem dX7_run_122 : decode cX7_run 122 = .ok (.aload_n 0, 1) := by decide +kernel
theorem dX7_run_123 : decode cX7_run 123 = .ok (.getfield 19, 3) := by decide +kernel
theorem dX7_run_126 : decode cX7_run 126 = .ok (.invokevirtual 268, 3) := by decide +kernel
theorem dX7_run_129 : decode cX7_run 129 = .ok (.aload_n 0, 1) := by decide +kernel
theorem dX7_run_130 : decode cX7_run 130 = .ok (.aload_n 0, 1) := by decide +kernel
theorem dX7_run_131 : decode cX7_run 131 = .ok (.getfield 105, 3) := by decide +kernel
theorem dX7_run_134 : decode cX7_run 134 = .ok (.iconst 0, 1) := by decide +kernel
theorem dX7_run_135 : decode cX7_run 135 = .ok (.iaload, 1) := by decide +kernel
theorem dX7_run_136 : decode cX7_run 136 = .ok (.putfield 130, 3) := by decide +kernel
theorem dX7_run_139 : decode cX7_run 139 = .ok (.iconst 0, 1) := by decide +kernel
theorem dX7_run_140 : decode cX7_run 140 = .ok (.istore_n 3, 1) := by decide +kernel
theorem dX7_run_141 : decode cX7_run 141 = .ok (.iload_n 3, 1) := by decide +kernel
theorem dX7_run_142 : decode cX7_run 142 = .ok (.iconst 4, 1) := by decide +kernel
theorem dX7_run_143 : decode cX7_run 143 = .ok (.aload_n 0, 1) := by decide +kernel
theorem dX7_run_144 : decode cX7_run 144 = .ok (.getfield 130, 3) := by decide +kernel
theorem dX7_run_147 : decode cX7_run 147 = .ok (.imul, 1) := by decide +kernel
theorem dX7_run_148 : decode cX7_run 148 = .ok (.if_icmp .ge 21, 3) := by decide +kernel
theorem dX7_run_151 : decode cX7_run 151 = .ok (.aload_n 0, 1) := by decide +kernel
theorem dX7_run_152 : decode cX7_run 152 = .ok (.getfield 133, 3) := by decide +kernel
theorem dX7_run_155 : decode cX7_run 155 = .ok (.iload_n 3, 1) := by decide +kernel
theorem dX7_run_156 : decode cX7_run 156 = .ok (.aload_n 0, 1) := by decide +kernel
theorem dX7_run_157 : decode cX7_run 157 = .ok (.getfield 102, 3) := by decide +kernel
theorem dX7_run_160 : decode cX7_run 160 = .ok (.iload_n 3, 1) := by decide +kernel
theorem dX7_run_161 : decode cX7_run 161 = .ok (.iaload, 1) := by decide +kernel
theorem dX7_run_162 : decode cX7_run 162 = .ok (.iastore, 1) := by decide +kernel
theorem dX7_run_163 : decode cX7_run 163 = .ok (.iinc 3 1, 3) := by decide +kernel
theorem dX7_run_166 : decode cX7_run 166 = .ok (.goto (-25), 3) := by decide +kernel
theorem dX7_run_169 : decode cX7_run 169 = .ok (.aload_n 0, 1) := by decide +kernel
theorem dX7_run_170 : decode cX7_run 170 = .ok (.getfield 130, 3) := by decide +kernel
theorem dX7_run_173 : decode cX7_run 173 = .ok (.ireturn, 1) := by decide +kernel
theorem dX7_steps_0 : decode cX7_steps 0 = .ok (.aload_n 0, 1) := by decide +kernel
theorem dX7_steps_1 : decode cX7_steps 1 = .ok (.getfield 127, 3) := by decide +kernel
theorem dX7_steps_4 : decode cX7_steps 4 = .ok (.ireturn, 1) := by decide +kernel
theorem dX7_out_0 : decode cX7_out 0 = .ok (.iload_n 1, 1) := by decide +kernel
theorem dX7_out_1 : decode cX7_out 1 = .ok (.ifCond .lt 20, 3) := by decide +kernel
theorem dX7_out_4 : decode cX7_out 4 = .ok (.iload_n 1, 1) := by decide +kernel
theorem dX7_out_5 : decode cX7_out 5 = .ok (.aload_n 0, 1) := by decide +kernel
theorem dX7_out_6 : decode cX7_out 6 = .ok (.getfield 130, 3) := by decide +kernel
theorem dX7_out_9 : decode cX7_out 9 = .ok (.if_icmp .ge 12, 3) := by decide +kernel
theorem dX7_out_12 : decode cX7_out 12 = .ok (.iload_n 2, 1) := by decide +kernel
theorem dX7_out_13 : decode cX7_out 13 = .ok (.ifCond .lt 8, 3) := by decide +kernel
theorem dX7_out_16 : decode cX7_out 16 = .ok (.iload_n 2, 1) := by decide +kernel
theorem dX7_out_17 : decode cX7_out 17 = .ok (.iconst 3, 1) := by decide +kernel
theorem dX7_out_18 : decode cX7_out 18 = .ok (.if_icmp .le 7, 3) := by decide +kernel
theorem dX7_out_21 : decode cX7_out 21 = .ok (.iconst (-1), 1) := by decide +kernel
theorem dX7_out_22 : decode cX7_out 22 = .ok (.goto 13, 3) := by decide +kernel
theorem dX7_out_25 : decode cX7_out 25 = .ok (.aload_n 0, 1) := by decide +kernel
theorem dX7_out_26 : decode cX7_out 26 = .ok (.getfield 133, 3) := by decide +kernel
theorem dX7_out_29 : decode cX7_out 29 = .ok (.iconst 4, 1) := by decide +kernel
theorem dX7_out_30 : decode cX7_out 30 = .ok (.iload_n 1, 1) := by decide +kernel
theorem dX7_out_31 : decode cX7_out 31 = .ok (.imul, 1) := by decide +kernel
theorem dX7_out_32 : decode cX7_out 32 = .ok (.iload_n 2, 1) := by decide +kernel
theorem dX7_out_33 : decode cX7_out 33 = .ok (.iadd, 1) := by decide +kernel
theorem dX7_out_34 : decode cX7_out 34 = .ok (.iaload, 1) := by decide +kernel
theorem dX7_out_35 : decode cX7_out 35 = .ok (.ireturn, 1) := by decide +kernel
set_option maxRecDepth 20000 in
theorem ggX7_holds_X7_of : GoodIn wsX7_holds wsX7_of := goodIn_r _ [11, 12, 13, 14, 15, 16, 17, 18, 19, 20, 21, 22, 23, 24, 25, 26, 27, 28, 29, 30, 31, 32, 33, 34, 35, 36, 37, 38, 39, 40, 41, 42, 43, 44, 45, 46, 47, 48, 49, 50, 51, 52] (by decide +kernel) (by decide +kernel)
set_option maxRecDepth 20000 in
theorem gX7_holds_X7_of : GoodIn wsX7_holds (wsV RX7 260 RX7 yX7_of wsX7_of) := goodIn_app (goodIn_of _ (by decide +kernel)) ggX7_holds_X7_of
theorem dX7_holds_0 : decode cX7_holds 0 = .ok (.iload_n 1, 1) := by decide +kernel
theorem dX7_holds_1 : decode cX7_holds 1 = .ok (.ifCond .lt 11, 3) := by decide +kernel
theorem dX7_holds_4 : decode cX7_holds 4 = .ok (.iload_n 1, 1) := by decide +kernel
theorem dX7_holds_5 : decode cX7_holds 5 = .ok (.aload_n 0, 1) := by decide +kernel
theorem dX7_holds_6 : decode cX7_holds 6 = .ok (.getfield 13, 3) := by decide +kernel
theorem dX7_holds_9 : decode cX7_holds 9 = .ok (.if_icmp .lt 5, 3) := by decide +kernel
theorem dX7_holds_12 : decode cX7_holds 12 = .ok (.iconst (-1), 1) := by decide +kernel
theorem dX7_holds_13 : decode cX7_holds 13 = .ok (.ireturn, 1) := by decide +kernel
theorem dX7_holds_14 : decode cX7_holds 14 = .ok (.iconst 0, 1) := by decide +kernel
theorem dX7_holds_15 : decode cX7_holds 15 = .ok (.istore_n 2, 1) := by decide +kernel
theorem dX7_holds_16 : decode cX7_holds 16 = .ok (.iconst 0, 1) := by decide +kernel
theorem dX7_holds_17 : decode cX7_holds 17 = .ok (.istore_n 3, 1) := by decide +kernel
theorem dX7_holds_18 : decode cX7_holds 18 = .ok (.iload_n 3, 1) := by decide +kernel
theorem dX7_holds_19 : decode cX7_holds 19 = .ok (.aload_n 0, 1) := by decide +kernel
theorem dX7_holds_20 : decode cX7_holds 20 = .ok (.getfield 22, 3) := by decide +kernel
theorem dX7_holds_23 : decode cX7_holds 23 = .ok (.aload_n 0, 1) := by decide +kernel
theorem dX7_holds_24 : decode cX7_holds 24 = .ok (.getfield 29, 3) := by decide +kernel
theorem dX7_holds_27 : decode cX7_holds 27 = .ok (.iload_n 1, 1) := by decide +kernel
theorem dX7_holds_28 : decode cX7_holds 28 = .ok (.iaload, 1) := by decide +kernel
theorem dX7_holds_29 : decode cX7_holds 29 = .ok (.iaload, 1) := by decide +kernel
theorem dX7_holds_30 : decode cX7_holds 30 = .ok (.if_icmp .ge 80, 3) := by decide +kernel
theorem dX7_holds_33 : decode cX7_holds 33 = .ok (.iconst 0, 1) := by decide +kernel
theorem dX7_holds_34 : decode cX7_holds 34 = .ok (.istore 4, 2) := by decide +kernel
theorem dX7_holds_36 : decode cX7_holds 36 = .ok (.iload 4, 2) := by decide +kernel
theorem dX7_holds_38 : decode cX7_holds 38 = .ok (.aload_n 0, 1) := by decide +kernel
theorem dX7_holds_39 : decode cX7_holds 39 = .ok (.getfield 22, 3) := by decide +kernel
theorem dX7_holds_42 : decode cX7_holds 42 = .ok (.aload_n 0, 1) := by decide +kernel
theorem dX7_holds_43 : decode cX7_holds 43 = .ok (.getfield 35, 3) := by decide +kernel
theorem dX7_holds_46 : decode cX7_holds 46 = .ok (.iload_n 1, 1) := by decide +kernel
theorem dX7_holds_47 : decode cX7_holds 47 = .ok (.iaload, 1) := by decide +kernel
theorem dX7_holds_48 : decode cX7_holds 48 = .ok (.iaload, 1) := by decide +kernel
theorem dX7_holds_49 : decode cX7_holds 49 = .ok (.if_icmp .ge 55, 3) := by decide +kernel
theorem dX7_holds_52 : decode cX7_holds 52 = .ok (.iload_n 2, 1) := by decide +kernel
theorem dX7_holds_53 : decode cX7_holds 53 = .ok (.aload_n 0, 1) := by decide +kernel
theorem dX7_holds_54 : decode cX7_holds 54 = .ok (.aload_n 0, 1) := by decide +kernel
theorem dX7_holds_55 : decode cX7_holds 55 = .ok (.getfield 29, 3) := by decide +kernel
theorem dX7_holds_58 : decode cX7_holds 58 = .ok (.iload_n 1, 1) := by decide +kernel
theorem dX7_holds_59 : decode cX7_holds 59 = .ok (.iaload, 1) := by decide +kernel
theorem dX7_holds_60 : decode cX7_holds 60 = .ok (.iload_n 3, 1) := by decide +kernel
theorem dX7_holds_61 : decode cX7_holds 61 = .ok (.aload_n 0, 1) := by decide +kernel
theorem dX7_holds_62 : decode cX7_holds 62 = .ok (.getfield 32, 3) := by decide +kernel
theorem dX7_holds_65 : decode cX7_holds 65 = .ok (.iload_n 1, 1) := by decide +kernel
theorem dX7_holds_66 : decode cX7_holds 66 = .ok (.iaload, 1) := by decide +kernel
theorem dX7_holds_67 : decode cX7_holds 67 = .ok (.invokevirtual 260, 3) := by decide +kernel
theorem dX7_holds_70 : decode cX7_holds 70 = .ok (.aload_n 0, 1) := by decide +kernel
theorem dX7_holds_71 : decode cX7_holds 71 = .ok (.aload_n 0, 1) := by decide +kernel
theorem dX7_holds_72 : decode cX7_holds 72 = .ok (.getfield 35, 3) := by decide +kernel
theorem dX7_holds_75 : decode cX7_holds 75 = .ok (.iload_n 1, 1) := by decide +kernel
theorem dX7_holds_76 : decode cX7_holds 76 = .ok (.iaload, 1) := by decide +kernel
theorem dX7_holds_77 : decode cX7_holds 77 = .ok (.iload 4, 2) := by decide +kernel
theorem dX7_holds_79 : decode cX7_holds 79 = .ok (.aload_n 0, 1) := by decide +kernel
theorem dX7_holds_80 : decode cX7_holds 80 = .ok (.getfield 38, 3) := by decide +kernel
theorem dX7_holds_83 : decode cX7_holds 83 = .ok (.iload_n 1, 1) := by decide +kernel
theorem dX7_holds_84 : decode cX7_holds 84 = .ok (.iaload, 1) := by decide +kernel
theorem dX7_holds_85 : decode cX7_holds 85 = .ok (.invokevirtual 260, 3) := by decide +kernel
theorem dX7_holds_88 : decode cX7_holds 88 = .ok (.if_icmp .ne 7, 3) := by decide +kernel
theorem dX7_holds_91 : decode cX7_holds 91 = .ok (.iconst 1, 1) := by decide +kernel
theorem dX7_holds_92 : decode cX7_holds 92 = .ok (.goto 4, 3) := by decide +kernel
theorem dX7_holds_95 : decode cX7_holds 95 = .ok (.iconst 0, 1) := by decide +kernel
theorem dX7_holds_96 : decode cX7_holds 96 = .ok (.iadd, 1) := by decide +kernel
theorem dX7_holds_97 : decode cX7_holds 97 = .ok (.istore_n 2, 1) := by decide +kernel
theorem dX7_holds_98 : decode cX7_holds 98 = .ok (.iinc 4 1, 3) := by decide +kernel
theorem dX7_holds_101 : decode cX7_holds 101 = .ok (.goto (-65), 3) := by decide +kernel
theorem dX7_holds_104 : decode cX7_holds 104 = .ok (.iinc 3 1, 3) := by decide +kernel
theorem dX7_holds_107 : decode cX7_holds 107 = .ok (.goto (-89), 3) := by decide +kernel
theorem dX7_holds_110 : decode cX7_holds 110 = .ok (.iload_n 2, 1) := by decide +kernel
theorem dX7_holds_111 : decode cX7_holds 111 = .ok (.ireturn, 1) := by decide +kernel
set_option maxRecDepth 20000 in
theorem ggX7_count_X7_open : GoodIn wsX7_count wsX7_open := goodIn_r _ [11, 3, 12, 90, 91, 92, 93, 94, 95, 96, 97, 98, 99, 100, 101, 102, 103, 104, 105, 106, 107, 108, 109, 110, 111, 112, 113, 114, 115, 116, 117, 118, 119, 120, 121, 122, 123, 124, 125, 126, 127, 128, 129] (by decide +kernel) (by decide +kernel)
set_option maxRecDepth 20000 in
theorem gX7_count_X7_open : GoodIn wsX7_count (wsV RX7 151 RX7 yX7_open wsX7_open) := goodIn_app (goodIn_of _ (by decide +kernel)) ggX7_count_X7_open
set_option maxRecDepth 20000 in
theorem ggX7_count_X7_isWhole : GoodIn wsX7_count wsX7_isWhole := goodIn_r _ [16, 1, 3, 17, 18, 2, 19, 20, 21, 10, 22, 23, 24, 25, 26, 90, 91, 92, 93, 94, 95, 96, 97, 98, 99, 100, 101, 102, 103, 104, 105, 106, 107, 108, 109, 110, 111, 112, 113, 114, 115, 116, 117, 118, 119, 120, 121, 122, 123, 124, 125, 126, 127, 128, 129] (by decide +kernel) (by decide +kernel)
set_option maxRecDepth 20000 in
theorem gX7_count_X7_isWhole : GoodIn wsX7_count (wsV RX7 203 RX7 yX7_isWhole wsX7_isWhole) := goodIn_app (goodIn_of _ (by decide +kernel)) ggX7_count_X7_isWhole
set_option maxRecDepth 20000 in
theorem ggX7_count_X7_list : GoodIn wsX7_count wsX7_list := goodIn_r _ [30, 5, 6, 1, 31, 2, 19, 20, 21, 10, 22, 32, 33, 34, 35, 36, 37, 38, 39, 40, 41, 42, 43, 44, 3, 23, 24, 25, 26, 17, 18, 45, 46, 47, 48, 49, 50, 51, 52, 53, 54, 55, 56, 57, 58, 59, 60, 12, 61, 62, 63, 64, 65, 66, 67, 68, 69, 70, 71, 72, 73, 74, 75, 76, 77, 78, 79, 80, 81, 82, 83, 84, 85, 86, 87, 88, 89, 90, 91, 92, 93, 94, 95, 96, 97, 98, 99, 100, 101, 102, 103, 104, 105, 106, 107, 108, 109, 110, 111, 112, 113, 114, 115, 116, 117, 118, 119, 120, 121, 122, 123, 124, 125, 126, 127, 128, 129] (by decide +kernel) (by decide +kernel)
set_option maxRecDepth 20000 in
theorem gX7_count_X7_list : GoodIn wsX7_count (wsV RX7 213 RX7 yX7_list wsX7_list) := goodIn_app (goodIn_of _ (by decide +kernel)) ggX7_count_X7_list
set_option maxRecDepth 20000 in
theorem ggX7_count_X7_all : GoodIn wsX7_count wsX7_all := goodIn_r _ [22, 1, 90, 91, 92, 93, 94, 95, 96, 97, 98, 99, 100, 101, 102, 103, 104, 105, 106, 107, 108, 109, 110, 111, 112, 113, 114, 115, 116, 117, 118, 119, 120, 121, 122, 123, 124, 125, 126, 127, 128, 129] (by decide +kernel) (by decide +kernel)
set_option maxRecDepth 20000 in
theorem gX7_count_X7_all : GoodIn wsX7_count (wsV RX7 140 RX7 yX7_all wsX7_all) := goodIn_app (goodIn_of _ (by decide +kernel)) ggX7_count_X7_all
theorem dX7_count_0 : decode cX7_count 0 = .ok (.iconst 0, 1) := by decide +kernel
theorem dX7_count_1 : decode cX7_count 1 = .ok (.istore_n 2, 1) := by decide +kernel
theorem dX7_count_2 : decode cX7_count 2 = .ok (.iload_n 1, 1) := by decide +kernel
theorem dX7_count_3 : decode cX7_count 3 = .ok (.tableswitch 129 0 6 #[41, 46, 73, 78, 83, 88, 101], 41) := by decide +kernel
theorem dX7_count_44 : decode cX7_count 44 = .ok (.aload_n 0, 1) := by decide +kernel
theorem dX7_count_45 : decode cX7_count 45 = .ok (.getfield 7, 3) := by decide +kernel
theorem dX7_count_48 : decode cX7_count 48 = .ok (.ireturn, 1) := by decide +kernel
theorem dX7_count_49 : decode cX7_count 49 = .ok (.iconst 0, 1) := by decide +kernel
theorem dX7_count_50 : decode cX7_count 50 = .ok (.istore_n 3, 1) := by decide +kernel
theorem dX7_count_51 : decode cX7_count 51 = .ok (.iload_n 3, 1) := by decide +kernel
theorem dX7_count_52 : decode cX7_count 52 = .ok (.aload_n 0, 1) := by decide +kernel
theorem dX7_count_53 : decode cX7_count 53 = .ok (.getfield 7, 3) := by decide +kernel
theorem dX7_count_56 : decode cX7_count 56 = .ok (.if_icmp .ge 18, 3) := by decide +kernel
theorem dX7_count_59 : decode cX7_count 59 = .ok (.iload_n 2, 1) := by decide +kernel
theorem dX7_count_60 : decode cX7_count 60 = .ok (.aload_n 0, 1) := by decide +kernel
theorem dX7_count_61 : decode cX7_count 61 = .ok (.getfield 22, 3) := by decide +kernel
theorem dX7_count_64 : decode cX7_count 64 = .ok (.iload_n 3, 1) := by decide +kernel
theorem dX7_count_65 : decode cX7_count 65 = .ok (.iaload, 1) := by decide +kernel
theorem dX7_count_66 : decode cX7_count 66 = .ok (.iadd, 1) := by decide +kernel
theorem dX7_count_67 : decode cX7_count 67 = .ok (.istore_n 2, 1) := by decide +kernel
theorem dX7_count_68 : decode cX7_count 68 = .ok (.iinc 3 1, 3) := by decide +kernel
theorem dX7_count_71 : decode cX7_count 71 = .ok (.goto (-20), 3) := by decide +kernel
theorem dX7_count_74 : decode cX7_count 74 = .ok (.iload_n 2, 1) := by decide +kernel
theorem dX7_count_75 : decode cX7_count 75 = .ok (.ireturn, 1) := by decide +kernel
theorem dX7_count_76 : decode cX7_count 76 = .ok (.aload_n 0, 1) := by decide +kernel
theorem dX7_count_77 : decode cX7_count 77 = .ok (.getfield 13, 3) := by decide +kernel
theorem dX7_count_80 : decode cX7_count 80 = .ok (.ireturn, 1) := by decide +kernel
theorem dX7_count_81 : decode cX7_count 81 = .ok (.aload_n 0, 1) := by decide +kernel
theorem dX7_count_82 : decode cX7_count 82 = .ok (.getfield 44, 3) := by decide +kernel
theorem dX7_count_85 : decode cX7_count 85 = .ok (.ireturn, 1) := by decide +kernel
theorem dX7_count_86 : decode cX7_count 86 = .ok (.aload_n 0, 1) := by decide +kernel
theorem dX7_count_87 : decode cX7_count 87 = .ok (.invokevirtual 151, 3) := by decide +kernel
theorem dX7_count_90 : decode cX7_count 90 = .ok (.ireturn, 1) := by decide +kernel
theorem dX7_count_91 : decode cX7_count 91 = .ok (.aload_n 0, 1) := by decide +kernel
theorem dX7_count_92 : decode cX7_count 92 = .ok (.invokevirtual 203, 3) := by decide +kernel
theorem dX7_count_95 : decode cX7_count 95 = .ok (.ifCond .eq 7, 3) := by decide +kernel
theorem dX7_count_98 : decode cX7_count 98 = .ok (.iconst 1, 1) := by decide +kernel
theorem dX7_count_99 : decode cX7_count 99 = .ok (.goto 4, 3) := by decide +kernel
theorem dX7_count_102 : decode cX7_count 102 = .ok (.iconst 0, 1) := by decide +kernel
theorem dX7_count_103 : decode cX7_count 103 = .ok (.ireturn, 1) := by decide +kernel
theorem dX7_count_104 : decode cX7_count 104 = .ok (.aload_n 0, 1) := by decide +kernel
theorem dX7_count_105 : decode cX7_count 105 = .ok (.invokevirtual 203, 3) := by decide +kernel
theorem dX7_count_108 : decode cX7_count 108 = .ok (.ifCond .ne 5, 3) := by decide +kernel
theorem dX7_count_111 : decode cX7_count 111 = .ok (.iconst 0, 1) := by decide +kernel
theorem dX7_count_112 : decode cX7_count 112 = .ok (.ireturn, 1) := by decide +kernel
theorem dX7_count_113 : decode cX7_count 113 = .ok (.aload_n 0, 1) := by decide +kernel
theorem dX7_count_114 : decode cX7_count 114 = .ok (.invokevirtual 213, 3) := by decide +kernel
theorem dX7_count_117 : decode cX7_count 117 = .ok (.aload_n 0, 1) := by decide +kernel
theorem dX7_count_118 : decode cX7_count 118 = .ok (.getfield 79, 3) := by decide +kernel
theorem dX7_count_121 : decode cX7_count 121 = .ok (.aload_n 0, 1) := by decide +kernel
theorem dX7_count_122 : decode cX7_count 122 = .ok (.getfield 60, 3) := by decide +kernel
theorem dX7_count_125 : decode cX7_count 125 = .ok (.aload_n 0, 1) := by decide +kernel
theorem dX7_count_126 : decode cX7_count 126 = .ok (.invokevirtual 140, 3) := by decide +kernel
theorem dX7_count_129 : decode cX7_count 129 = .ok (.iaload, 1) := by decide +kernel
theorem dX7_count_130 : decode cX7_count 130 = .ok (.isub, 1) := by decide +kernel
theorem dX7_count_131 : decode cX7_count 131 = .ok (.ireturn, 1) := by decide +kernel
theorem dX7_count_132 : decode cX7_count 132 = .ok (.iconst (-1), 1) := by decide +kernel
theorem dX7_count_133 : decode cX7_count 133 = .ok (.ireturn, 1) := by decide +kernel
