theorem dJ3_checkIndex_8e157_6 : decode cJ3_checkIndex_8e157 6 = .ok (.if_icmp .lt 10, 3) := by decide +kernel
theorem dJ3_checkIndex_8e157_9 : decode cJ3_checkIndex_8e157 9 = .ok (.aload_n 2, 1) := by decide +kernel
theorem dJ3_checkIndex_8e157_10 : decode cJ3_checkIndex_8e157 10 = .ok (.iload_n 0, 1) := by decide +kernel
theorem dJ3_checkIndex_8e157_11 : decode cJ3_checkIndex_8e157 11 = .ok (.iload_n 1, 1) := by decide +kernel
theorem dJ3_checkIndex_8e157_12 : decode cJ3_checkIndex_8e157 12 = .ok (.invokestatic 95, 3) := by decide +kernel
theorem dJ3_checkIndex_8e157_15 : decode cJ3_checkIndex_8e157 15 = .ok (.athrow, 1) := by decide +kernel
theorem dJ3_checkIndex_8e157_16 : decode cJ3_checkIndex_8e157 16 = .ok (.iload_n 0, 1) := by decide +kernel
theorem dJ3_checkIndex_8e157_17 : decode cJ3_checkIndex_8e157 17 = .ok (.ireturn, 1) := by decide +kernel
theorem dL_below_0 : decode cL_below 0 = .ok (.iload_n 0, 1) := by decide +kernel
theorem dL_below_1 : decode cL_below 1 = .ok (.ldc 7, 2) := by decide +kernel
theorem dL_below_3 : decode cL_below 3 = .ok (.iand, 1) := by decide +kernel
theorem dL_below_4 : decode cL_below 4 = .ok (.iload_n 1, 1) := by decide +kernel
theorem dL_below_5 : decode cL_below 5 = .ok (.irem, 1) := by decide +kernel
theorem dL_below_6 : decode cL_below 6 = .ok (.ireturn, 1) := by decide +kernel
theorem dL_cell_0 : decode cL_cell 0 = .ok (.iload_n 1, 1) := by decide +kernel
theorem dL_cell_1 : decode cL_cell 1 = .ok (.aload_n 0, 1) := by decide +kernel
theorem dL_cell_2 : decode cL_cell 2 = .ok (.arraylength, 1) := by decide +kernel
theorem dL_cell_3 : decode cL_cell 3 = .ok (.if_icmp .ge 9, 3) := by decide +kernel
theorem dL_cell_6 : decode cL_cell 6 = .ok (.aload_n 0, 1) := by decide +kernel
theorem dL_cell_7 : decode cL_cell 7 = .ok (.iload_n 1, 1) := by decide +kernel
theorem dL_cell_8 : decode cL_cell 8 = .ok (.iaload, 1) := by decide +kernel
theorem dL_cell_9 : decode cL_cell 9 = .ok (.goto 9, 3) := by decide +kernel
theorem dL_cell_12 : decode cL_cell 12 = .ok (.ldc 8, 2) := by decide +kernel
theorem dL_cell_14 : decode cL_cell 14 = .ok (.iload_n 1, 1) := by decide +kernel
theorem dL_cell_15 : decode cL_cell 15 = .ok (.iconst 3, 1) := by decide +kernel
theorem dL_cell_16 : decode cL_cell 16 = .ok (.iadd, 1) := by decide +kernel
theorem dL_cell_17 : decode cL_cell 17 = .ok (.imul, 1) := by decide +kernel
theorem dL_cell_18 : decode cL_cell 18 = .ok (.ireturn, 1) := by decide +kernel
theorem dL_build_0 : decode cL_build 0 = .ok (.iload_n 2, 1) := by decide +kernel
theorem dL_build_1 : decode cL_build 1 = .ok (.anewarray 9, 3) := by decide +kernel
theorem dL_build_4 : decode cL_build 4 = .ok (.astore_n 3, 1) := by decide +kernel
theorem dL_build_5 : decode cL_build 5 = .ok (.aload_n 3, 1) := by decide +kernel
theorem dL_build_6 : decode cL_build 6 = .ok (.iconst 0, 1) := by decide +kernel
theorem dL_build_7 : decode cL_build 7 = .ok (.iconst 5, 1) := by decide +kernel
theorem dL_build_8 : decode cL_build 8 = .ok (.newarray .int, 2) := by decide +kernel
theorem dL_build_10 : decode cL_build 10 = .ok (.dup, 1) := by decide +kernel
theorem dL_build_11 : decode cL_build 11 = .ok (.iconst 0, 1) := by decide +kernel
theorem dL_build_12 : decode cL_build 12 = .ok (.iconst (-1), 1) := by decide +kernel
theorem dL_build_13 : decode cL_build 13 = .ok (.iastore, 1) := by decide +kernel
theorem dL_build_14 : decode cL_build 14 = .ok (.dup, 1) := by decide +kernel
theorem dL_build_15 : decode cL_build 15 = .ok (.iconst 1, 1) := by decide +kernel
theorem dL_build_16 : decode cL_build 16 = .ok (.iconst 0, 1) := by decide +kernel
theorem dL_build_17 : decode cL_build 17 = .ok (.iastore, 1) := by decide +kernel
theorem dL_build_18 : decode cL_build 18 = .ok (.dup, 1) := by decide +kernel
theorem dL_build_19 : decode cL_build 19 = .ok (.iconst 2, 1) := by decide +kernel
theorem dL_build_20 : decode cL_build 20 = .ok (.iconst 0, 1) := by decide +kernel
theorem dL_build_21 : decode cL_build 21 = .ok (.iastore, 1) := by decide +kernel
theorem dL_build_22 : decode cL_build 22 = .ok (.dup, 1) := by decide +kernel
theorem dL_build_23 : decode cL_build 23 = .ok (.iconst 3, 1) := by decide +kernel
theorem dL_build_24 : decode cL_build 24 = .ok (.iconst 0, 1) := by decide +kernel
theorem dL_build_25 : decode cL_build 25 = .ok (.iastore, 1) := by decide +kernel
theorem dL_build_26 : decode cL_build 26 = .ok (.dup, 1) := by decide +kernel
theorem dL_build_27 : decode cL_build 27 = .ok (.iconst 4, 1) := by decide +kernel
theorem dL_build_28 : decode cL_build 28 = .ok (.iconst 0, 1) := by decide +kernel
theorem dL_build_29 : decode cL_build 29 = .ok (.iastore, 1) := by decide +kernel
theorem dL_build_30 : decode cL_build 30 = .ok (.aastore, 1) := by decide +kernel
theorem dL_build_31 : decode cL_build 31 = .ok (.iconst 1, 1) := by decide +kernel
theorem dL_build_32 : decode cL_build 32 = .ok (.istore 4, 2) := by decide +kernel
theorem dL_build_34 : decode cL_build 34 = .ok (.iload 4, 2) := by decide +kernel
theorem dL_build_36 : decode cL_build 36 = .ok (.iload_n 2, 1) := by decide +kernel
theorem dL_build_37 : decode cL_build 37 = .ok (.if_icmp .ge 265, 3) := by decide +kernel
theorem dL_build_40 : decode cL_build 40 = .ok (.aload_n 1, 1) := by decide +kernel
theorem dL_build_41 : decode cL_build 41 = .ok (.iload 4, 2) := by decide +kernel
theorem dL_build_43 : decode cL_build 43 = .ok (.bipush 13, 2) := by decide +kernel
theorem dL_build_45 : decode cL_build 45 = .ok (.irem, 1) := by decide +kernel
theorem dL_build_46 : decode cL_build 46 = .ok (.invokestatic 11, 3) := by decide +kernel
theorem dL_build_49 : decode cL_build 49 = .ok (.iload 4, 2) := by decide +kernel
theorem dL_build_51 : decode cL_build 51 = .ok (.bipush 13, 2) := by decide +kernel
theorem dL_build_53 : decode cL_build 53 = .ok (.idiv, 1) := by decide +kernel
theorem dL_build_54 : decode cL_build 54 = .ok (.bipush 7, 2) := by decide +kernel
theorem dL_build_56 : decode cL_build 56 = .ok (.imul, 1) := by decide +kernel
theorem dL_build_57 : decode cL_build 57 = .ok (.ishr, 1) := by decide +kernel
theorem dL_build_58 : decode cL_build 58 = .ok (.istore 5, 2) := by decide +kernel
theorem dL_build_60 : decode cL_build 60 = .ok (.iload 5, 2) := by decide +kernel
theorem dL_build_62 : decode cL_build 62 = .ok (.iload 4, 2) := by decide +kernel
theorem dL_build_64 : decode cL_build 64 = .ok (.invokestatic 17, 3) := by decide +kernel
theorem dL_build_67 : decode cL_build 67 = .ok (.istore 6, 2) := by decide +kernel
theorem dL_build_69 : decode cL_build 69 = .ok (.iconst 0, 1) := by decide +kernel
theorem dL_build_70 : decode cL_build 70 = .ok (.istore 7, 2) := by decide +kernel
theorem dL_build_72 : decode cL_build 72 = .ok (.iload 6, 2) := by decide +kernel
theorem dL_build_74 : decode cL_build 74 = .ok (.istore 8, 2) := by decide +kernel
theorem dL_build_76 : decode cL_build 76 = .ok (.iload 8, 2) := by decide +kernel
theorem dL_build_78 : decode cL_build 78 = .ok (.ifCond .le 17, 3) := by decide +kernel
theorem dL_build_81 : decode cL_build 81 = .ok (.iinc 7 1, 3) := by decide +kernel
theorem dL_build_84 : decode cL_build 84 = .ok (.aload_n 3, 1) := by decide +kernel
theorem dL_build_85 : decode cL_build 85 = .ok (.iload 8, 2) := by decide +kernel
theorem dL_build_87 : decode cL_build 87 = .ok (.aaload, 1) := by decide +kernel
theorem dL_build_88 : decode cL_build 88 = .ok (.iconst 0, 1) := by decide +kernel
theorem dL_build_89 : decode cL_build 89 = .ok (.iaload, 1) := by decide +kernel
theorem dL_build_90 : decode cL_build 90 = .ok (.istore 8, 2) := by decide +kernel
theorem dL_build_92 : decode cL_build 92 = .ok (.goto (-16), 3) := by decide +kernel
theorem dL_build_95 : decode cL_build 95 = .ok (.aload_n 3, 1) := by decide +kernel
theorem dL_build_96 : decode cL_build 96 = .ok (.iload 6, 2) := by decide +kernel
theorem dL_build_98 : decode cL_build 98 = .ok (.aaload, 1) := by decide +kernel
theorem dL_build_99 : decode cL_build 99 = .ok (.iconst 1, 1) := by decide +kernel
theorem dL_build_100 : decode cL_build 100 = .ok (.iaload, 1) := by decide +kernel
theorem dL_build_101 : decode cL_build 101 = .ok (.iconst 1, 1) := by decide +kernel
theorem dL_build_102 : decode cL_build 102 = .ok (.if_icmp .eq 10, 3) := by decide +kernel
theorem dL_build_105 : decode cL_build 105 = .ok (.iload 7, 2) := by decide +kernel
theorem dL_build_107 : decode cL_build 107 = .ok (.bipush 7, 2) := by decide +kernel
theorem dL_build_109 : decode cL_build 109 = .ok (.if_icmp .le 6, 3) := by decide +kernel
theorem dL_build_112 : decode cL_build 112 = .ok (.iconst 0, 1) := by decide +kernel
theorem dL_build_113 : decode cL_build 113 = .ok (.istore 6, 2) := by decide +kernel
theorem dL_build_115 : decode cL_build 115 = .ok (.iload 5, 2) := by decide +kernel
theorem dL_build_117 : decode cL_build 117 = .ok (.iconst 3, 1) := by decide +kernel
theorem dL_build_118 : decode cL_build 118 = .ok (.ishr, 1) := by decide +kernel
theorem dL_build_119 : decode cL_build 119 = .ok (.iconst 4, 1) := by decide +kernel
theorem dL_build_120 : decode cL_build 120 = .ok (.invokestatic 17, 3) := by decide +kernel
theorem dL_build_123 : decode cL_build 123 = .ok (.ifCond .ne 7, 3) := by decide +kernel
theorem dL_build_126 : decode cL_build 126 = .ok (.iconst 1, 1) := by decide +kernel
theorem dL_build_127 : decode cL_build 127 = .ok (.goto 4, 3) := by decide +kernel
theorem dL_build_130 : decode cL_build 130 = .ok (.iconst 0, 1) := by decide +kernel
theorem dL_build_131 : decode cL_build 131 = .ok (.istore 8, 2) := by decide +kernel
theorem dL_build_133 : decode cL_build 133 = .ok (.aload_n 3, 1) := by decide +kernel
theorem dL_build_134 : decode cL_build 134 = .ok (.iload 4, 2) := by decide +kernel
theorem dL_build_136 : decode cL_build 136 = .ok (.iconst 5, 1) := by decide +kernel
theorem dL_build_137 : decode cL_build 137 = .ok (.newarray .int, 2) := by decide +kernel
theorem dL_build_139 : decode cL_build 139 = .ok (.dup, 1) := by decide +kernel
theorem dL_build_140 : decode cL_build 140 = .ok (.iconst 0, 1) := by decide +kernel
theorem dL_build_141 : decode cL_build 141 = .ok (.iload 6, 2) := by decide +kernel
theorem dL_build_143 : decode cL_build 143 = .ok (.iastore, 1) := by decide +kernel
theorem dL_build_144 : decode cL_build 144 = .ok (.dup, 1) := by decide +kernel
theorem dL_build_145 : decode cL_build 145 = .ok (.iconst 1, 1) := by decide +kernel
theorem dL_build_146 : decode cL_build 146 = .ok (.iload 8, 2) := by decide +kernel
theorem dL_build_148 : decode cL_build 148 = .ok (.ifCond .eq 7, 3) := by decide +kernel
theorem dL_build_151 : decode cL_build 151 = .ok (.iconst 1, 1) := by decide +kernel
theorem dL_build_152 : decode cL_build 152 = .ok (.goto 4, 3) := by decide +kernel
theorem dL_build_155 : decode cL_build 155 = .ok (.iconst 0, 1) := by decide +kernel
theorem dL_build_156 : decode cL_build 156 = .ok (.iastore, 1) := by decide +kernel
theorem dL_build_157 : decode cL_build 157 = .ok (.dup, 1) := by decide +kernel
theorem dL_build_158 : decode cL_build 158 = .ok (.iconst 2, 1) := by decide +kernel
theorem dL_build_159 : decode cL_build 159 = .ok (.iload 5, 2) := by decide +kernel
theorem dL_build_161 : decode cL_build 161 = .ok (.iconst 2, 1) := by decide +kernel
theorem dL_build_162 : decode cL_build 162 = .ok (.ishr, 1) := by decide +kernel
theorem dL_build_163 : decode cL_build 163 = .ok (.iconst 4, 1) := by decide +kernel
theorem dL_build_164 : decode cL_build 164 = .ok (.invokestatic 17, 3) := by decide +kernel
theorem dL_build_167 : decode cL_build 167 = .ok (.iastore, 1) := by decide +kernel
theorem dL_build_168 : decode cL_build 168 = .ok (.dup, 1) := by decide +kernel
theorem dL_build_169 : decode cL_build 169 = .ok (.iconst 3, 1) := by decide +kernel
theorem dL_build_170 : decode cL_build 170 = .ok (.iconst 0, 1) := by decide +kernel
theorem dL_build_171 : decode cL_build 171 = .ok (.iastore, 1) := by decide +kernel
theorem dL_build_172 : decode cL_build 172 = .ok (.dup, 1) := by decide +kernel
theorem dL_build_173 : decode cL_build 173 = .ok (.iconst 4, 1) := by decide +kernel
theorem dL_build_174 : decode cL_build 174 = .ok (.iconst 0, 1) := by decide +kernel
theorem dL_build_175 : decode cL_build 175 = .ok (.iastore, 1) := by decide +kernel
theorem dL_build_176 : decode cL_build 176 = .ok (.aastore, 1) := by decide +kernel
theorem dL_build_177 : decode cL_build 177 = .ok (.iload 8, 2) := by decide +kernel
theorem dL_build_179 : decode cL_build 179 = .ok (.ifCond .eq 13, 3) := by decide +kernel
theorem dL_build_182 : decode cL_build 182 = .ok (.aload_n 0, 1) := by decide +kernel
theorem dL_build_183 : decode cL_build 183 = .ok (.iload 6, 2) := by decide +kernel
theorem dL_build_185 : decode cL_build 185 = .ok (.invokevirtual 21, 3) := by decide +kernel
theorem dL_build_188 : decode cL_build 188 = .ok (.pop, 1) := by decide +kernel
theorem dL_build_189 : decode cL_build 189 = .ok (.goto 16, 3) := by decide +kernel
theorem dL_build_192 : decode cL_build 192 = .ok (.aload_n 0, 1) := by decide +kernel
theorem dL_build_193 : decode cL_build 193 = .ok (.iload 6, 2) := by decide +kernel
theorem dL_build_195 : decode cL_build 195 = .ok (.aload_n 3, 1) := by decide +kernel
theorem dL_build_196 : decode cL_build 196 = .ok (.iload 4, 2) := by decide +kernel
theorem dL_build_198 : decode cL_build 198 = .ok (.aaload, 1) := by decide +kernel
theorem dL_build_199 : decode cL_build 199 = .ok (.iconst 2, 1) := by decide +kernel
theorem dL_build_200 : decode cL_build 200 = .ok (.iaload, 1) := by decide +kernel
theorem dL_build_201 : decode cL_build 201 = .ok (.invokevirtual 27, 3) := by decide +kernel
theorem dL_build_204 : decode cL_build 204 = .ok (.pop, 1) := by decide +kernel
theorem dL_build_205 : decode cL_build 205 = .ok (.iload 8, 2) := by decide +kernel
theorem dL_build_207 : decode cL_build 207 = .ok (.ifCond .eq 6, 3) := by decide +kernel
theorem dL_build_210 : decode cL_build 210 = .ok (.goto 86, 3) := by decide +kernel
theorem dL_build_213 : decode cL_build 213 = .ok (.iload 5, 2) := by decide +kernel
theorem dL_build_215 : decode cL_build 215 = .ok (.iconst 4, 1) := by decide +kernel
theorem dL_build_216 : decode cL_build 216 = .ok (.ishr, 1) := by decide +kernel
theorem dL_build_217 : decode cL_build 217 = .ok (.iconst 4, 1) := by decide +kernel
theorem dL_build_218 : decode cL_build 218 = .ok (.invokestatic 17, 3) := by decide +kernel
theorem dL_build_221 : decode cL_build 221 = .ok (.ifCond .ne 30, 3) := by decide +kernel
theorem dL_build_224 : decode cL_build 224 = .ok (.aload_n 3, 1) := by decide +kernel
theorem dL_build_225 : decode cL_build 225 = .ok (.iload 4, 2) := by decide +kernel
theorem dL_build_227 : decode cL_build 227 = .ok (.aaload, 1) := by decide +kernel
theorem dL_build_228 : decode cL_build 228 = .ok (.iconst 3, 1) := by decide +kernel
theorem dL_build_229 : decode cL_build 229 = .ok (.iconst 1, 1) := by decide +kernel
theorem dL_build_230 : decode cL_build 230 = .ok (.iload 5, 2) := by decide +kernel
theorem dL_build_232 : decode cL_build 232 = .ok (.iconst 3, 1) := by decide +kernel
theorem dL_build_233 : decode cL_build 233 = .ok (.invokestatic 17, 3) := by decide +kernel
theorem dL_build_236 : decode cL_build 236 = .ok (.iadd, 1) := by decide +kernel
theorem dL_build_237 : decode cL_build 237 = .ok (.iastore, 1) := by decide +kernel
theorem dL_build_238 : decode cL_build 238 = .ok (.aload_n 0, 1) := by decide +kernel
theorem dL_build_239 : decode cL_build 239 = .ok (.iload 4, 2) := by decide +kernel
theorem dL_build_241 : decode cL_build 241 = .ok (.aload_n 3, 1) := by decide +kernel
theorem dL_build_242 : decode cL_build 242 = .ok (.iload 4, 2) := by decide +kernel
theorem dL_build_244 : decode cL_build 244 = .ok (.aaload, 1) := by decide +kernel
theorem dL_build_245 : decode cL_build 245 = .ok (.iconst 3, 1) := by decide +kernel
theorem dL_build_246 : decode cL_build 246 = .ok (.iaload, 1) := by decide +kernel
theorem dL_build_247 : decode cL_build 247 = .ok (.invokevirtual 30, 3) := by decide +kernel
theorem dL_build_250 : decode cL_build 250 = .ok (.pop, 1) := by decide +kernel
theorem dL_build_251 : decode cL_build 251 = .ok (.iload 5, 2) := by decide +kernel
theorem dL_build_253 : decode cL_build 253 = .ok (.iconst 5, 1) := by decide +kernel
theorem dL_build_254 : decode cL_build 254 = .ok (.ishr, 1) := by decide +kernel
theorem dL_build_255 : decode cL_build 255 = .ok (.iconst 2, 1) := by decide +kernel
theorem dL_build_256 : decode cL_build 256 = .ok (.invokestatic 17, 3) := by decide +kernel
theorem dL_build_259 : decode cL_build 259 = .ok (.ifCond .ne 37, 3) := by decide +kernel
theorem dL_build_262 : decode cL_build 262 = .ok (.aload_n 3, 1) := by decide +kernel
theorem dL_build_263 : decode cL_build 263 = .ok (.iload 4, 2) := by decide +kernel
theorem dL_build_265 : decode cL_build 265 = .ok (.aaload, 1) := by decide +kernel
theorem dL_build_266 : decode cL_build 266 = .ok (.iconst 4, 1) := by decide +kernel
theorem dL_build_267 : decode cL_build 267 = .ok (.iconst 1, 1) := by decide +kernel
theorem dL_build_268 : decode cL_build 268 = .ok (.iload 5, 2) := by decide +kernel
theorem dL_build_270 : decode cL_build 270 = .ok (.bipush 6, 2) := by decide +kernel
theorem dL_build_272 : decode cL_build 272 = .ok (.ishr, 1) := by decide +kernel
theorem dL_build_273 : decode cL_build 273 = .ok (.iconst 3, 1) := by decide +kernel
theorem dL_build_274 : decode cL_build 274 = .ok (.invokestatic 17, 3) := by decide +kernel
theorem dL_build_277 : decode cL_build 277 = .ok (.ishl, 1) := by decide +kernel
theorem dL_build_278 : decode cL_build 278 = .ok (.iastore, 1) := by decide +kernel
theorem dL_build_279 : decode cL_build 279 = .ok (.aload_n 0, 1) := by decide +kernel
theorem dL_build_280 : decode cL_build 280 = .ok (.iload 4, 2) := by decide +kernel
theorem dL_build_282 : decode cL_build 282 = .ok (.iload 5, 2) := by decide +kernel
theorem dL_build_284 : decode cL_build 284 = .ok (.bipush 6, 2) := by decide +kernel
theorem dL_build_286 : decode cL_build 286 = .ok (.ishr, 1) := by decide +kernel
theorem dL_build_287 : decode cL_build 287 = .ok (.iconst 3, 1) := by decide +kernel
theorem dL_build_288 : decode cL_build 288 = .ok (.invokestatic 17, 3) := by decide +kernel
theorem dL_build_291 : decode cL_build 291 = .ok (.iconst 1, 1) := by decide +kernel
theorem dL_build_292 : decode cL_build 292 = .ok (.invokevirtual 33, 3) := by decide +kernel
theorem dL_build_295 : decode cL_build 295 = .ok (.pop, 1) := by decide +kernel
theorem dL_build_296 : decode cL_build 296 = .ok (.iinc 4 1, 3) := by decide +kernel
theorem dL_build_299 : decode cL_build 299 = .ok (.goto (-265), 3) := by decide +kernel
theorem dL_build_302 : decode cL_build 302 = .ok (.aload_n 3, 1) := by decide +kernel
theorem dL_build_303 : decode cL_build 303 = .ok (.areturn, 1) := by decide +kernel
theorem dL_isSound_0 : decode cL_isSound 0 = .ok (.iconst 0, 1) := by decide +kernel
theorem dL_isSound_1 : decode cL_isSound 1 = .ok (.istore_n 1, 1) := by decide +kernel
theorem dL_isSound_2 : decode cL_isSound 2 = .ok (.iconst 0, 1) := by decide +kernel
theorem dL_isSound_3 : decode cL_isSound 3 = .ok (.istore_n 2, 1) := by decide +kernel
theorem dL_isSound_4 : decode cL_isSound 4 = .ok (.iload_n 2, 1) := by decide +kernel
theorem dL_isSound_5 : decode cL_isSound 5 = .ok (.aload_n 0, 1) := by decide +kernel
theorem dL_isSound_6 : decode cL_isSound 6 = .ok (.invokevirtual 37, 3) := by decide +kernel
theorem dL_isSound_9 : decode cL_isSound 9 = .ok (.if_icmp .ge 470, 3) := by decide +kernel
theorem dL_isSound_12 : decode cL_isSound 12 = .ok (.aload_n 0, 1) := by decide +kernel
theorem dL_isSound_13 : decode cL_isSound 13 = .ok (.iload_n 2, 1) := by decide +kernel
theorem dL_isSound_14 : decode cL_isSound 14 = .ok (.invokevirtual 41, 3) := by decide +kernel
theorem dL_isSound_17 : decode cL_isSound 17 = .ok (.ifCond .ne 6, 3) := by decide +kernel
theorem dL_isSound_20 : decode cL_isSound 20 = .ok (.goto 453, 3) := by decide +kernel
theorem dL_isSound_23 : decode cL_isSound 23 = .ok (.iinc 1 1, 3) := by decide +kernel
theorem dL_isSound_26 : decode cL_isSound 26 = .ok (.aload_n 0, 1) := by decide +kernel
theorem dL_isSound_27 : decode cL_isSound 27 = .ok (.iload_n 2, 1) := by decide +kernel
theorem dL_isSound_28 : decode cL_isSound 28 = .ok (.invokevirtual 45, 3) := by decide +kernel
theorem dL_isSound_31 : decode cL_isSound 31 = .ok (.istore_n 3, 1) := by decide +kernel
theorem dL_isSound_32 : decode cL_isSound 32 = .ok (.iload_n 3, 1) := by decide +kernel
theorem dL_isSound_33 : decode cL_isSound 33 = .ok (.iconst 2, 1) := by decide +kernel
theorem dL_isSound_34 : decode cL_isSound 34 = .ok (.if_icmp .le 7, 3) := by decide +kernel
theorem dL_isSound_37 : decode cL_isSound 37 = .ok (.iconst 1, 1) := by decide +kernel
theorem dL_isSound_38 : decode cL_isSound 38 = .ok (.goto 4, 3) := by decide +kernel
theorem dL_isSound_41 : decode cL_isSound 41 = .ok (.iconst 0, 1) := by decide +kernel
theorem dL_isSound_42 : decode cL_isSound 42 = .ok (.istore 4, 2) := by decide +kernel
theorem dL_isSound_44 : decode cL_isSound 44 = .ok (.aload_n 0, 1) := by decide +kernel
theorem dL_isSound_45 : decode cL_isSound 45 = .ok (.iload_n 2, 1) := by decide +kernel
theorem dL_isSound_46 : decode cL_isSound 46 = .ok (.invokevirtual 48, 3) := by decide +kernel
theorem dL_isSound_49 : decode cL_isSound 49 = .ok (.iload_n 3, 1) := by decide +kernel
theorem dL_isSound_50 : decode cL_isSound 50 = .ok (.iconst 1, 1) := by decide +kernel
theorem dL_isSound_51 : decode cL_isSound 51 = .ok (.if_icmp .ne 7, 3) := by decide +kernel
theorem dL_isSound_54 : decode cL_isSound 54 = .ok (.iconst 1, 1) := by decide +kernel
theorem dL_isSound_55 : decode cL_isSound 55 = .ok (.goto 4, 3) := by decide +kernel
theorem dL_isSound_58 : decode cL_isSound 58 = .ok (.iconst 0, 1) := by decide +kernel
theorem dL_isSound_59 : decode cL_isSound 59 = .ok (.if_icmp .eq 7, 3) := by decide +kernel
theorem dL_isSound_62 : decode cL_isSound 62 = .ok (.iload_n 3, 1) := by decide +kernel
theorem dL_isSound_63 : decode cL_isSound 63 = .ok (.ifCond .ne 99, 3) := by decide +kernel
theorem dL_isSound_66 : decode cL_isSound 66 = .ok (.iload 4, 2) := by decide +kernel
theorem dL_isSound_68 : decode cL_isSound 68 = .ok (.aload_n 0, 1) := by decide +kernel
theorem dL_isSound_69 : decode cL_isSound 69 = .ok (.iload_n 2, 1) := by decide +kernel
theorem dL_isSound_70 : decode cL_isSound 70 = .ok (.invokevirtual 51, 3) := by decide +kernel
theorem dL_isSound_73 : decode cL_isSound 73 = .ok (.ifCond .lt 7, 3) := by decide +kernel
theorem dL_isSound_76 : decode cL_isSound 76 = .ok (.iconst 1, 1) := by decide +kernel
theorem dL_isSound_77 : decode cL_isSound 77 = .ok (.goto 4, 3) := by decide +kernel
theorem dL_isSound_80 : decode cL_isSound 80 = .ok (.iconst 0, 1) := by decide +kernel
theorem dL_isSound_81 : decode cL_isSound 81 = .ok (.if_icmp .ne 81, 3) := by decide +kernel
theorem dL_isSound_84 : decode cL_isSound 84 = .ok (.iload 4, 2) := by decide +kernel
theorem dL_isSound_86 : decode cL_isSound 86 = .ok (.aload_n 0, 1) := by decide +kernel
theorem dL_isSound_87 : decode cL_isSound 87 = .ok (.iload_n 2, 1) := by decide +kernel
theorem dL_isSound_88 : decode cL_isSound 88 = .ok (.invokevirtual 54, 3) := by decide +kernel
theorem dL_isSound_91 : decode cL_isSound 91 = .ok (.ifCond .lt 7, 3) := by decide +kernel
theorem dL_isSound_94 : decode cL_isSound 94 = .ok (.iconst 1, 1) := by decide +kernel
theorem dL_isSound_95 : decode cL_isSound 95 = .ok (.goto 4, 3) := by decide +kernel
theorem dL_isSound_98 : decode cL_isSound 98 = .ok (.iconst 0, 1) := by decide +kernel
theorem dL_isSound_99 : decode cL_isSound 99 = .ok (.if_icmp .ne 63, 3) := by decide +kernel
theorem dL_isSound_102 : decode cL_isSound 102 = .ok (.iload 4, 2) := by decide +kernel
theorem dL_isSound_104 : decode cL_isSound 104 = .ok (.aload_n 0, 1) := by decide +kernel
theorem dL_isSound_105 : decode cL_isSound 105 = .ok (.iload_n 2, 1) := by decide +kernel
theorem dL_isSound_106 : decode cL_isSound 106 = .ok (.invokevirtual 57, 3) := by decide +kernel
theorem dL_isSound_109 : decode cL_isSound 109 = .ok (.ifCond .lt 7, 3) := by decide +kernel
theorem dL_isSound_112 : decode cL_isSound 112 = .ok (.iconst 1, 1) := by decide +kernel
theorem dL_isSound_113 : decode cL_isSound 113 = .ok (.goto 4, 3) := by decide +kernel
theorem dL_isSound_116 : decode cL_isSound 116 = .ok (.iconst 0, 1) := by decide +kernel
theorem dL_isSound_117 : decode cL_isSound 117 = .ok (.if_icmp .ne 45, 3) := by decide +kernel
theorem dL_isSound_120 : decode cL_isSound 120 = .ok (.iload 4, 2) := by decide +kernel
theorem dL_isSound_122 : decode cL_isSound 122 = .ok (.aload_n 0, 1) := by decide +kernel
theorem dL_isSound_123 : decode cL_isSound 123 = .ok (.iload_n 2, 1) := by decide +kernel
theorem dL_isSound_124 : decode cL_isSound 124 = .ok (.invokevirtual 60, 3) := by decide +kernel
theorem dL_isSound_127 : decode cL_isSound 127 = .ok (.sipush (-9999), 3) := by decide +kernel
theorem dL_isSound_130 : decode cL_isSound 130 = .ok (.if_icmp .eq 7, 3) := by decide +kernel
theorem dL_isSound_133 : decode cL_isSound 133 = .ok (.iconst 1, 1) := by decide +kernel
theorem dL_isSound_134 : decode cL_isSound 134 = .ok (.goto 4, 3) := by decide +kernel
theorem dL_isSound_137 : decode cL_isSound 137 = .ok (.iconst 0, 1) := by decide +kernel
theorem dL_isSound_138 : decode cL_isSound 138 = .ok (.if_icmp .ne 24, 3) := by decide +kernel
theorem dL_isSound_141 : decode cL_isSound 141 = .ok (.iload 4, 2) := by decide +kernel
theorem dL_isSound_143 : decode cL_isSound 143 = .ok (.ifCond .ne 21, 3) := by decide +kernel
theorem dL_isSound_146 : decode cL_isSound 146 = .ok (.aload_n 0, 1) := by decide +kernel
theorem dL_isSound_147 : decode cL_isSound 147 = .ok (.iload_n 2, 1) := by decide +kernel
theorem dL_isSound_148 : decode cL_isSound 148 = .ok (.invokevirtual 63, 3) := by decide +kernel
theorem dL_isSound_151 : decode cL_isSound 151 = .ok (.ifCond .ne 11, 3) := by decide +kernel
theorem dL_isSound_154 : decode cL_isSound 154 = .ok (.aload_n 0, 1) := by decide +kernel
theorem dL_isSound_155 : decode cL_isSound 155 = .ok (.iload_n 2, 1) := by decide +kernel
theorem dL_isSound_156 : decode cL_isSound 156 = .ok (.invokevirtual 66, 3) := by decide +kernel
theorem dL_isSound_159 : decode cL_isSound 159 = .ok (.ifCond .eq 5, 3) := by decide +kernel
theorem dL_isSound_162 : decode cL_isSound 162 = .ok (.iconst 0, 1) := by decide +kernel
theorem dL_isSound_163 : decode cL_isSound 163 = .ok (.ireturn, 1) := by decide +kernel
theorem dL_isSound_164 : decode cL_isSound 164 = .ok (.aload_n 0, 1) := by decide +kernel
theorem dL_isSound_165 : decode cL_isSound 165 = .ok (.iload_n 2, 1) := by decide +kernel
theorem dL_isSound_166 : decode cL_isSound 166 = .ok (.invokevirtual 69, 3) := by decide +kernel
theorem dL_isSound_169 : decode cL_isSound 169 = .ok (.ifCond .lt 15, 3) := by decide +kernel
theorem dL_isSound_172 : decode cL_isSound 172 = .ok (.aload_n 0, 1) := by decide +kernel
theorem dL_isSound_173 : decode cL_isSound 173 = .ok (.aload_n 0, 1) := by decide +kernel
theorem dL_isSound_174 : decode cL_isSound 174 = .ok (.iload_n 2, 1) := by decide +kernel
theorem dL_isSound_175 : decode cL_isSound 175 = .ok (.invokevirtual 69, 3) := by decide +kernel
theorem dL_isSound_178 : decode cL_isSound 178 = .ok (.invokevirtual 41, 3) := by decide +kernel
theorem dL_isSound_181 : decode cL_isSound 181 = .ok (.ifCond .eq 28, 3) := by decide +kernel
theorem dL_isSound_184 : decode cL_isSound 184 = .ok (.aload_n 0, 1) := by decide +kernel
theorem dL_isSound_185 : decode cL_isSound 185 = .ok (.iload_n 2, 1) := by decide +kernel
theorem dL_isSound_186 : decode cL_isSound 186 = .ok (.invokevirtual 69, 3) := by decide +kernel
theorem dL_isSound_189 : decode cL_isSound 189 = .ok (.ifCond .ge 7, 3) := by decide +kernel
theorem dL_isSound_192 : decode cL_isSound 192 = .ok (.iconst 1, 1) := by decide +kernel
theorem dL_isSound_193 : decode cL_isSound 193 = .ok (.goto 4, 3) := by decide +kernel
theorem dL_isSound_196 : decode cL_isSound 196 = .ok (.iconst 0, 1) := by decide +kernel
theorem dL_isSound_197 : decode cL_isSound 197 = .ok (.iload_n 2, 1) := by decide +kernel
theorem dL_isSound_198 : decode cL_isSound 198 = .ok (.ifCond .ne 7, 3) := by decide +kernel
theorem dL_isSound_201 : decode cL_isSound 201 = .ok (.iconst 1, 1) := by decide +kernel
theorem dL_isSound_202 : decode cL_isSound 202 = .ok (.goto 4, 3) := by decide +kernel
theorem dL_isSound_205 : decode cL_isSound 205 = .ok (.iconst 0, 1) := by decide +kernel
theorem dL_isSound_206 : decode cL_isSound 206 = .ok (.if_icmp .eq 5, 3) := by decide +kernel
theorem dL_isSound_209 : decode cL_isSound 209 = .ok (.iconst 0, 1) := by decide +kernel
theorem dL_isSound_210 : decode cL_isSound 210 = .ok (.ireturn, 1) := by decide +kernel
theorem dL_isSound_211 : decode cL_isSound 211 = .ok (.aload_n 0, 1) := by decide +kernel
theorem dL_isSound_212 : decode cL_isSound 212 = .ok (.iload_n 2, 1) := by decide +kernel
theorem dL_isSound_213 : decode cL_isSound 213 = .ok (.invokevirtual 48, 3) := by decide +kernel
theorem dL_isSound_216 : decode cL_isSound 216 = .ok (.ifCond .eq 28, 3) := by decide +kernel
theorem dL_isSound_219 : decode cL_isSound 219 = .ok (.aload_n 0, 1) := by decide +kernel
theorem dL_isSound_220 : decode cL_isSound 220 = .ok (.iload_n 2, 1) := by decide +kernel
theorem dL_isSound_221 : decode cL_isSound 221 = .ok (.invokevirtual 72, 3) := by decide +kernel
theorem dL_isSound_224 : decode cL_isSound 224 = .ok (.aload_n 0, 1) := by decide +kernel
theorem dL_isSound_225 : decode cL_isSound 225 = .ok (.iload_n 2, 1) := by decide +kernel
theorem dL_isSound_226 : decode cL_isSound 226 = .ok (.invokevirtual 75, 3) := by decide +kernel
theorem dL_isSound_229 : decode cL_isSound 229 = .ok (.if_icmp .gt 13, 3) := by decide +kernel
theorem dL_isSound_232 : decode cL_isSound 232 = .ok (.aload_n 0, 1) := by decide +kernel
theorem dL_isSound_233 : decode cL_isSound 233 = .ok (.iload_n 2, 1) := by decide +kernel
theorem dL_isSound_234 : decode cL_isSound 234 = .ok (.invokevirtual 75, 3) := by decide +kernel
theorem dL_isSound_237 : decode cL_isSound 237 = .ok (.bipush 20, 2) := by decide +kernel
theorem dL_isSound_239 : decode cL_isSound 239 = .ok (.if_icmp .le 234, 3) := by decide +kernel
theorem dL_isSound_242 : decode cL_isSound 242 = .ok (.iconst 0, 1) := by decide +kernel
theorem dL_isSound_243 : decode cL_isSound 243 = .ok (.ireturn, 1) := by decide +kernel
theorem dL_isSound_244 : decode cL_isSound 244 = .ok (.iconst 0, 1) := by decide +kernel
theorem dL_isSound_245 : decode cL_isSound 245 = .ok (.istore 5, 2) := by decide +kernel
theorem dL_isSound_247 : decode cL_isSound 247 = .ok (.iload 5, 2) := by decide +kernel
theorem dL_isSound_249 : decode cL_isSound 249 = .ok (.aload_n 0, 1) := by decide +kernel
theorem dL_isSound_250 : decode cL_isSound 250 = .ok (.iload_n 2, 1) := by decide +kernel
theorem dL_isSound_251 : decode cL_isSound 251 = .ok (.invokevirtual 75, 3) := by decide +kernel
theorem dL_isSound_254 : decode cL_isSound 254 = .ok (.if_icmp .ge 26, 3) := by decide +kernel
theorem dL_isSound_257 : decode cL_isSound 257 = .ok (.aload_n 0, 1) := by decide +kernel
theorem dL_isSound_258 : decode cL_isSound 258 = .ok (.aload_n 0, 1) := by decide +kernel
theorem dL_isSound_259 : decode cL_isSound 259 = .ok (.iload_n 2, 1) := by decide +kernel
theorem dL_isSound_260 : decode cL_isSound 260 = .ok (.iload 5, 2) := by decide +kernel
theorem dL_isSound_262 : decode cL_isSound 262 = .ok (.invokevirtual 78, 3) := by decide +kernel
theorem dL_isSound_265 : decode cL_isSound 265 = .ok (.invokevirtual 69, 3) := by decide +kernel
theorem dL_isSound_268 : decode cL_isSound 268 = .ok (.iload_n 2, 1) := by decide +kernel
theorem dL_isSound_269 : decode cL_isSound 269 = .ok (.if_icmp .eq 5, 3) := by decide +kernel
theorem dL_isSound_272 : decode cL_isSound 272 = .ok (.iconst 0, 1) := by decide +kernel
theorem dL_isSound_273 : decode cL_isSound 273 = .ok (.ireturn, 1) := by decide +kernel
theorem dL_isSound_274 : decode cL_isSound 274 = .ok (.iinc 5 1, 3) := by decide +kernel
theorem dL_isSound_277 : decode cL_isSound 277 = .ok (.goto (-30), 3) := by decide +kernel
theorem dL_isSound_280 : decode cL_isSound 280 = .ok (.iload 4, 2) := by decide +kernel
theorem dL_isSound_282 : decode cL_isSound 282 = .ok (.ifCond .eq 46, 3) := by decide +kernel
theorem dL_isSound_285 : decode cL_isSound 285 = .ok (.aload_n 0, 1) := by decide +kernel
theorem dL_isSound_286 : decode cL_isSound 286 = .ok (.iload_n 2, 1) := by decide +kernel
theorem dL_isSound_287 : decode cL_isSound 287 = .ok (.invokevirtual 66, 3) := by decide +kernel
theorem dL_isSound_290 : decode cL_isSound 290 = .ok (.ifCond .le 38, 3) := by decide +kernel
theorem dL_isSound_293 : decode cL_isSound 293 = .ok (.aload_n 0, 1) := by decide +kernel
theorem dL_isSound_294 : decode cL_isSound 294 = .ok (.iload_n 2, 1) := by decide +kernel
theorem dL_isSound_295 : decode cL_isSound 295 = .ok (.bipush 11, 2) := by decide +kernel
theorem dL_isSound_297 : decode cL_isSound 297 = .ok (.invokevirtual 81, 3) := by decide +kernel
theorem dL_isSound_300 : decode cL_isSound 300 = .ok (.iconst 1, 1) := by decide +kernel
theorem dL_isSound_301 : decode cL_isSound 301 = .ok (.if_icmp .ne 25, 3) := by decide +kernel
theorem dL_isSound_304 : decode cL_isSound 304 = .ok (.aload_n 0, 1) := by decide +kernel
theorem dL_isSound_305 : decode cL_isSound 305 = .ok (.iload_n 2, 1) := by decide +kernel
theorem dL_isSound_306 : decode cL_isSound 306 = .ok (.invokevirtual 66, 3) := by decide +kernel
theorem dL_isSound_309 : decode cL_isSound 309 = .ok (.aload_n 0, 1) := by decide +kernel
theorem dL_isSound_310 : decode cL_isSound 310 = .ok (.iload_n 2, 1) := by decide +kernel
theorem dL_isSound_311 : decode cL_isSound 311 = .ok (.invokevirtual 57, 3) := by decide +kernel
theorem dL_isSound_314 : decode cL_isSound 314 = .ok (.if_icmp .gt 12, 3) := by decide +kernel
theorem dL_isSound_317 : decode cL_isSound 317 = .ok (.aload_n 0, 1) := by decide +kernel
theorem dL_isSound_318 : decode cL_isSound 318 = .ok (.iload_n 2, 1) := by decide +kernel
theorem dL_isSound_319 : decode cL_isSound 319 = .ok (.iconst 2, 1) := by decide +kernel
theorem dL_isSound_320 : decode cL_isSound 320 = .ok (.invokevirtual 81, 3) := by decide +kernel
theorem dL_isSound_323 : decode cL_isSound 323 = .ok (.ifCond .ge 5, 3) := by decide +kernel
theorem dL_isSound_326 : decode cL_isSound 326 = .ok (.iconst 0, 1) := by decide +kernel
theorem dL_isSound_327 : decode cL_isSound 327 = .ok (.ireturn, 1) := by decide +kernel
theorem dL_isSound_328 : decode cL_isSound 328 = .ok (.iconst 0, 1) := by decide +kernel
theorem dL_isSound_329 : decode cL_isSound 329 = .ok (.istore 5, 2) := by decide +kernel
theorem dL_isSound_331 : decode cL_isSound 331 = .ok (.iload 5, 2) := by decide +kernel
theorem dL_isSound_333 : decode cL_isSound 333 = .ok (.bipush 14, 2) := by decide +kernel
theorem dL_isSound_335 : decode cL_isSound 335 = .ok (.if_icmp .ge 138, 3) := by decide +kernel
theorem dL_isSound_338 : decode cL_isSound 338 = .ok (.aload_n 0, 1) := by decide +kernel
theorem dL_isSound_339 : decode cL_isSound 339 = .ok (.iload_n 2, 1) := by decide +kernel
theorem dL_isSound_340 : decode cL_isSound 340 = .ok (.iload 5, 2) := by decide +kernel
theorem dL_isSound_342 : decode cL_isSound 342 = .ok (.invokevirtual 84, 3) := by decide +kernel
theorem dL_isSound_345 : decode cL_isSound 345 = .ok (.istore 6, 2) := by decide +kernel
theorem dL_isSound_347 : decode cL_isSound 347 = .ok (.iload 6, 2) := by decide +kernel
theorem dL_isSound_349 : decode cL_isSound 349 = .ok (.bipush (-3), 2) := by decide +kernel
theorem dL_isSound_351 : decode cL_isSound 351 = .ok (.if_icmp .lt 114, 3) := by decide +kernel
theorem dL_isSound_354 : decode cL_isSound 354 = .ok (.iload 6, 2) := by decide +kernel
theorem dL_isSound_356 : decode cL_isSound 356 = .ok (.aload_n 0, 1) := by decide +kernel
theorem dL_isSound_357 : decode cL_isSound 357 = .ok (.invokevirtual 87, 3) := by decide +kernel
theorem dL_isSound_360 : decode cL_isSound 360 = .ok (.if_icmp .ge 105, 3) := by decide +kernel
theorem dL_isSound_363 : decode cL_isSound 363 = .ok (.iload 6, 2) := by decide +kernel
theorem dL_isSound_365 : decode cL_isSound 365 = .ok (.ifCond .lt 13, 3) := by decide +kernel
theorem dL_isSound_368 : decode cL_isSound 368 = .ok (.aload_n 0, 1) := by decide +kernel
theorem dL_isSound_369 : decode cL_isSound 369 = .ok (.iload 6, 2) := by decide +kernel
theorem dL_isSound_371 : decode cL_isSound 371 = .ok (.iload_n 2, 1) := by decide +kernel
theorem dL_isSound_372 : decode cL_isSound 372 = .ok (.invokevirtual 90, 3) := by decide +kernel
theorem dL_isSound_375 : decode cL_isSound 375 = .ok (.ifCond .eq 90, 3) := by decide +kernel
theorem dL_isSound_378 : decode cL_isSound 378 = .ok (.iload 6, 2) := by decide +kernel
theorem dL_isSound_380 : decode cL_isSound 380 = .ok (.bipush (-2), 2) := by decide +kernel
theorem dL_isSound_382 : decode cL_isSound 382 = .ok (.if_icmp .ne 28, 3) := by decide +kernel
theorem dL_isSound_385 : decode cL_isSound 385 = .ok (.iload_n 2, 1) := by decide +kernel
theorem dL_isSound_386 : decode cL_isSound 386 = .ok (.ifCond .eq 79, 3) := by decide +kernel
theorem dL_isSound_389 : decode cL_isSound 389 = .ok (.aload_n 0, 1) := by decide +kernel
theorem dL_isSound_390 : decode cL_isSound 390 = .ok (.iload_n 2, 1) := by decide +kernel
theorem dL_isSound_391 : decode cL_isSound 391 = .ok (.iload 5, 2) := by decide +kernel
theorem dL_isSound_393 : decode cL_isSound 393 = .ok (.invokevirtual 81, 3) := by decide +kernel
theorem dL_isSound_396 : decode cL_isSound 396 = .ok (.aload_n 0, 1) := by decide +kernel
theorem dL_isSound_397 : decode cL_isSound 397 = .ok (.aload_n 0, 1) := by decide +kernel
theorem dL_isSound_398 : decode cL_isSound 398 = .ok (.iload_n 2, 1) := by decide +kernel
theorem dL_isSound_399 : decode cL_isSound 399 = .ok (.invokevirtual 69, 3) := by decide +kernel
theorem dL_isSound_402 : decode cL_isSound 402 = .ok (.iload 5, 2) := by decide +kernel
theorem dL_isSound_404 : decode cL_isSound 404 = .ok (.invokevirtual 81, 3) := by decide +kernel
theorem dL_isSound_407 : decode cL_isSound 407 = .ok (.if_icmp .ne 58, 3) := by decide +kernel
theorem dL_isSound_410 : decode cL_isSound 410 = .ok (.iload 6, 2) := by decide +kernel
theorem dL_isSound_412 : decode cL_isSound 412 = .ok (.bipush (-3), 2) := by decide +kernel
theorem dL_isSound_414 : decode cL_isSound 414 = .ok (.if_icmp .ne 53, 3) := by decide +kernel
theorem dL_isSound_417 : decode cL_isSound 417 = .ok (.aload_n 0, 1) := by decide +kernel
theorem dL_isSound_418 : decode cL_isSound 418 = .ok (.iload_n 2, 1) := by decide +kernel
theorem dL_isSound_419 : decode cL_isSound 419 = .ok (.iload 5, 2) := by decide +kernel
theorem dL_isSound_421 : decode cL_isSound 421 = .ok (.invokevirtual 81, 3) := by decide +kernel
theorem dL_isSound_424 : decode cL_isSound 424 = .ok (.iload 5, 2) := by decide +kernel
theorem dL_isSound_426 : decode cL_isSound 426 = .ok (.ifCond .ne 7, 3) := by decide +kernel
theorem dL_isSound_429 : decode cL_isSound 429 = .ok (.iconst 1, 1) := by decide +kernel
theorem dL_isSound_430 : decode cL_isSound 430 = .ok (.goto 32, 3) := by decide +kernel
theorem dL_isSound_433 : decode cL_isSound 433 = .ok (.iload 5, 2) := by decide +kernel
theorem dL_isSound_435 : decode cL_isSound 435 = .ok (.iconst 1, 1) := by decide +kernel
theorem dL_isSound_436 : decode cL_isSound 436 = .ok (.if_icmp .eq 9, 3) := by decide +kernel
theorem dL_isSound_439 : decode cL_isSound 439 = .ok (.iload 5, 2) := by decide +kernel
theorem dL_isSound_441 : decode cL_isSound 441 = .ok (.iconst 2, 1) := by decide +kernel
theorem dL_isSound_442 : decode cL_isSound 442 = .ok (.if_icmp .ne 7, 3) := by decide +kernel
theorem dL_isSound_445 : decode cL_isSound 445 = .ok (.iconst (-1), 1) := by decide +kernel
theorem dL_isSound_446 : decode cL_isSound 446 = .ok (.goto 16, 3) := by decide +kernel
theorem dL_isSound_449 : decode cL_isSound 449 = .ok (.iload 5, 2) := by decide +kernel
theorem dL_isSound_451 : decode cL_isSound 451 = .ok (.bipush 9, 2) := by decide +kernel
theorem dL_isSound_453 : decode cL_isSound 453 = .ok (.if_icmp .ne 8, 3) := by decide +kernel
theorem dL_isSound_456 : decode cL_isSound 456 = .ok (.bipush 8, 2) := by decide +kernel
theorem dL_isSound_458 : decode cL_isSound 458 = .ok (.goto 4, 3) := by decide +kernel
theorem dL_isSound_461 : decode cL_isSound 461 = .ok (.iconst 0, 1) := by decide +kernel
theorem dL_isSound_462 : decode cL_isSound 462 = .ok (.if_icmp .eq 5, 3) := by decide +kernel
theorem dL_isSound_465 : decode cL_isSound 465 = .ok (.iconst 0, 1) := by decide +kernel
theorem dL_isSound_466 : decode cL_isSound 466 = .ok (.ireturn, 1) := by decide +kernel
theorem dL_isSound_467 : decode cL_isSound 467 = .ok (.iinc 5 1, 3) := by decide +kernel
theorem dL_isSound_470 : decode cL_isSound 470 = .ok (.goto (-139), 3) := by decide +kernel
theorem dL_isSound_473 : decode cL_isSound 473 = .ok (.iinc 2 1, 3) := by decide +kernel
theorem dL_isSound_476 : decode cL_isSound 476 = .ok (.goto (-472), 3) := by decide +kernel
theorem dL_isSound_479 : decode cL_isSound 479 = .ok (.iload_n 1, 1) := by decide +kernel
theorem dL_isSound_480 : decode cL_isSound 480 = .ok (.aload_n 0, 1) := by decide +kernel
theorem dL_isSound_481 : decode cL_isSound 481 = .ok (.invokevirtual 94, 3) := by decide +kernel
theorem dL_isSound_484 : decode cL_isSound 484 = .ok (.if_icmp .ne 23, 3) := by decide +kernel
theorem dL_isSound_487 : decode cL_isSound 487 = .ok (.aload_n 0, 1) := by decide +kernel
theorem dL_isSound_488 : decode cL_isSound 488 = .ok (.invokevirtual 97, 3) := by decide +kernel
theorem dL_isSound_491 : decode cL_isSound 491 = .ok (.ifCond .lt 16, 3) := by decide +kernel
theorem dL_isSound_494 : decode cL_isSound 494 = .ok (.aload_n 0, 1) := by decide +kernel
theorem dL_isSound_495 : decode cL_isSound 495 = .ok (.invokevirtual 100, 3) := by decide +kernel
theorem dL_isSound_498 : decode cL_isSound 498 = .ok (.dconst 0, 1) := by decide +kernel
theorem dL_isSound_499 : decode cL_isSound 499 = .ok (.dcmp .l, 1) := by decide +kernel
theorem dL_isSound_500 : decode cL_isSound 500 = .ok (.ifCond .lt 7, 3) := by decide +kernel
theorem dL_isSound_503 : decode cL_isSound 503 = .ok (.iconst 1, 1) := by decide +kernel
theorem dL_isSound_504 : decode cL_isSound 504 = .ok (.goto 4, 3) := by decide +kernel
theorem dL_isSound_507 : decode cL_isSound 507 = .ok (.iconst 0, 1) := by decide +kernel
theorem dL_isSound_508 : decode cL_isSound 508 = .ok (.ireturn, 1) := by decide +kernel
theorem dL_law_0 : decode cL_law 0 = .ok (.new 22, 3) := by decide +kernel
theorem dL_law_3 : decode cL_law 3 = .ok (.dup, 1) := by decide +kernel
theorem dL_law_4 : decode cL_law 4 = .ok (.invokespecial 104, 3) := by decide +kernel
theorem dL_law_7 : decode cL_law 7 = .ok (.astore_n 1, 1) := by decide +kernel
theorem dL_law_8 : decode cL_law 8 = .ok (.iconst 4, 1) := by decide +kernel
theorem dL_law_9 : decode cL_law 9 = .ok (.aload_n 0, 1) := by decide +kernel
theorem dL_law_10 : decode cL_law 10 = .ok (.bipush 15, 2) := by decide +kernel
theorem dL_law_12 : decode cL_law 12 = .ok (.invokestatic 11, 3) := by decide +kernel
theorem dL_law_15 : decode cL_law 15 = .ok (.bipush 12, 2) := by decide +kernel
theorem dL_law_17 : decode cL_law 17 = .ok (.invokestatic 17, 3) := by decide +kernel
theorem dL_law_20 : decode cL_law 20 = .ok (.iadd, 1) := by decide +kernel
theorem dL_law_21 : decode cL_law 21 = .ok (.istore_n 2, 1) := by decide +kernel
theorem dL_law_22 : decode cL_law 22 = .ok (.aload_n 1, 1) := by decide +kernel
theorem dL_law_23 : decode cL_law 23 = .ok (.aload_n 0, 1) := by decide +kernel
theorem dL_law_24 : decode cL_law 24 = .ok (.iload_n 2, 1) := by decide +kernel
theorem dL_law_25 : decode cL_law 25 = .ok (.invokestatic 105, 3) := by decide +kernel
theorem dL_law_28 : decode cL_law 28 = .ok (.astore_n 3, 1) := by decide +kernel
theorem dL_law_29 : decode cL_law 29 = .ok (.bipush 12, 2) := by decide +kernel
theorem dL_law_31 : decode cL_law 31 = .ok (.newarray .int, 2) := by decide +kernel
theorem dL_law_33 : decode cL_law 33 = .ok (.dup, 1) := by decide +kernel
theorem dL_law_34 : decode cL_law 34 = .ok (.iconst 0, 1) := by decide +kernel
theorem dL_law_35 : decode cL_law 35 = .ok (.iconst 0, 1) := by decide +kernel
theorem dL_law_36 : decode cL_law 36 = .ok (.iastore, 1) := by decide +kernel
theorem dL_law_37 : decode cL_law 37 = .ok (.dup, 1) := by decide +kernel
theorem dL_law_38 : decode cL_law 38 = .ok (.iconst 1, 1) := by decide +kernel
theorem dL_law_39 : decode cL_law 39 = .ok (.iconst 1, 1) := by decide +kernel
theorem dL_law_40 : decode cL_law 40 = .ok (.iastore, 1) := by decide +kernel
theorem dL_law_41 : decode cL_law 41 = .ok (.dup, 1) := by decide +kernel
theorem dL_law_42 : decode cL_law 42 = .ok (.iconst 2, 1) := by decide +kernel
theorem dL_law_43 : decode cL_law 43 = .ok (.iconst 2, 1) := by decide +kernel
theorem dL_law_44 : decode cL_law 44 = .ok (.iastore, 1) := by decide +kernel
theorem dL_law_45 : decode cL_law 45 = .ok (.dup, 1) := by decide +kernel
theorem dL_law_46 : decode cL_law 46 = .ok (.iconst 3, 1) := by decide +kernel
theorem dL_law_47 : decode cL_law 47 = .ok (.iconst 3, 1) := by decide +kernel
theorem dL_law_48 : decode cL_law 48 = .ok (.iastore, 1) := by decide +kernel
theorem dL_law_49 : decode cL_law 49 = .ok (.dup, 1) := by decide +kernel
theorem dL_law_50 : decode cL_law 50 = .ok (.iconst 4, 1) := by decide +kernel
theorem dL_law_51 : decode cL_law 51 = .ok (.iconst 4, 1) := by decide +kernel
theorem dL_law_52 : decode cL_law 52 = .ok (.iastore, 1) := by decide +kernel
theorem dL_law_53 : decode cL_law 53 = .ok (.dup, 1) := by decide +kernel
theorem dL_law_54 : decode cL_law 54 = .ok (.iconst 5, 1) := by decide +kernel
theorem dL_law_55 : decode cL_law 55 = .ok (.iconst 5, 1) := by decide +kernel
theorem dL_law_56 : decode cL_law 56 = .ok (.iastore, 1) := by decide +kernel
theorem dL_law_57 : decode cL_law 57 = .ok (.dup, 1) := by decide +kernel
theorem dL_law_58 : decode cL_law 58 = .ok (.bipush 6, 2) := by decide +kernel
theorem dL_law_60 : decode cL_law 60 = .ok (.bipush 6, 2) := by decide +kernel
theorem dL_law_62 : decode cL_law 62 = .ok (.iastore, 1) := by decide +kernel
theorem dL_law_63 : decode cL_law 63 = .ok (.dup, 1) := by decide +kernel
theorem dL_law_64 : decode cL_law 64 = .ok (.bipush 7, 2) := by decide +kernel
theorem dL_law_66 : decode cL_law 66 = .ok (.bipush 7, 2) := by decide +kernel
theorem dL_law_68 : decode cL_law 68 = .ok (.iastore, 1) := by decide +kernel
theorem dL_law_69 : decode cL_law 69 = .ok (.dup, 1) := by decide +kernel
theorem dL_law_70 : decode cL_law 70 = .ok (.bipush 8, 2) := by decide +kernel
theorem dL_law_72 : decode cL_law 72 = .ok (.bipush 9, 2) := by decide +kernel
theorem dL_law_74 : decode cL_law 74 = .ok (.iastore, 1) := by decide +kernel
theorem dL_law_75 : decode cL_law 75 = .ok (.dup, 1) := by decide +kernel
theorem dL_law_76 : decode cL_law 76 = .ok (.bipush 9, 2) := by decide +kernel
theorem dL_law_78 : decode cL_law 78 = .ok (.bipush 10, 2) := by decide +kernel
theorem dL_law_80 : decode cL_law 80 = .ok (.iastore, 1) := by decide +kernel
theorem dL_law_81 : decode cL_law 81 = .ok (.dup, 1) := by decide +kernel
theorem dL_law_82 : decode cL_law 82 = .ok (.bipush 10, 2) := by decide +kernel
theorem dL_law_84 : decode cL_law 84 = .ok (.bipush 11, 2) := by decide +kernel
theorem dL_law_86 : decode cL_law 86 = .ok (.iastore, 1) := by decide +kernel
theorem dL_law_87 : decode cL_law 87 = .ok (.dup, 1) := by decide +kernel
theorem dL_law_88 : decode cL_law 88 = .ok (.bipush 11, 2) := by decide +kernel
theorem dL_law_90 : decode cL_law 90 = .ok (.bipush 12, 2) := by decide +kernel
theorem dL_law_92 : decode cL_law 92 = .ok (.iastore, 1) := by decide +kernel
theorem dL_law_93 : decode cL_law 93 = .ok (.astore 4, 2) := by decide +kernel
theorem dL_law_95 : decode cL_law 95 = .ok (.iconst 0, 1) := by decide +kernel
theorem dL_law_96 : decode cL_law 96 = .ok (.istore 5, 2) := by decide +kernel
theorem dL_law_98 : decode cL_law 98 = .ok (.iload 5, 2) := by decide +kernel
theorem dL_law_100 : decode cL_law 100 = .ok (.bipush 14, 2) := by decide +kernel
theorem dL_law_102 : decode cL_law 102 = .ok (.if_icmp .ge 383, 3) := by decide +kernel
theorem dL_law_105 : decode cL_law 105 = .ok (.aload_n 0, 1) := by decide +kernel
theorem dL_law_106 : decode cL_law 106 = .ok (.iload 5, 2) := by decide +kernel
theorem dL_law_108 : decode cL_law 108 = .ok (.invokestatic 11, 3) := by decide +kernel
theorem dL_law_111 : decode cL_law 111 = .ok (.iconst 3, 1) := by decide +kernel
theorem dL_law_112 : decode cL_law 112 = .ok (.imul, 1) := by decide +kernel
theorem dL_law_113 : decode cL_law 113 = .ok (.aload_n 0, 1) := by decide +kernel
theorem dL_law_114 : decode cL_law 114 = .ok (.bipush 15, 2) := by decide +kernel
theorem dL_law_116 : decode cL_law 116 = .ok (.iload 5, 2) := by decide +kernel
theorem dL_law_118 : decode cL_law 118 = .ok (.isub, 1) := by decide +kernel
theorem dL_law_119 : decode cL_law 119 = .ok (.invokestatic 11, 3) := by decide +kernel
theorem dL_law_122 : decode cL_law 122 = .ok (.iadd, 1) := by decide +kernel
theorem dL_law_123 : decode cL_law 123 = .ok (.istore 6, 2) := by decide +kernel
theorem dL_law_125 : decode cL_law 125 = .ok (.iload 6, 2) := by decide +kernel
theorem dL_law_127 : decode cL_law 127 = .ok (.iload_n 2, 1) := by decide +kernel
theorem dL_law_128 : decode cL_law 128 = .ok (.invokestatic 17, 3) := by decide +kernel
theorem dL_law_131 : decode cL_law 131 = .ok (.istore 7, 2) := by decide +kernel
theorem dL_law_133 : decode cL_law 133 = .ok (.aload_n 3, 1) := by decide +kernel
theorem dL_law_134 : decode cL_law 134 = .ok (.iload 7, 2) := by decide +kernel
theorem dL_law_136 : decode cL_law 136 = .ok (.aaload, 1) := by decide +kernel
theorem dL_law_137 : decode cL_law 137 = .ok (.iconst 1, 1) := by decide +kernel
theorem dL_law_138 : decode cL_law 138 = .ok (.iaload, 1) := by decide +kernel
theorem dL_law_139 : decode cL_law 139 = .ok (.iconst 1, 1) := by decide +kernel
theorem dL_law_140 : decode cL_law 140 = .ok (.if_icmp .ne 57, 3) := by decide +kernel
theorem dL_law_143 : decode cL_law 143 = .ok (.iload 6, 2) := by decide +kernel
theorem dL_law_145 : decode cL_law 145 = .ok (.iconst 3, 1) := by decide +kernel
theorem dL_law_146 : decode cL_law 146 = .ok (.ishr, 1) := by decide +kernel
theorem dL_law_147 : decode cL_law 147 = .ok (.iconst 5, 1) := by decide +kernel
theorem dL_law_148 : decode cL_law 148 = .ok (.invokestatic 17, 3) := by decide +kernel
theorem dL_law_151 : decode cL_law 151 = .ok (.istore 8, 2) := by decide +kernel
theorem dL_law_153 : decode cL_law 153 = .ok (.iload 8, 2) := by decide +kernel
theorem dL_law_155 : decode cL_law 155 = .ok (.ifCond .le 39, 3) := by decide +kernel
theorem dL_law_158 : decode cL_law 158 = .ok (.aload_n 1, 1) := by decide +kernel
theorem dL_law_159 : decode cL_law 159 = .ok (.iload 7, 2) := by decide +kernel
theorem dL_law_161 : decode cL_law 161 = .ok (.invokevirtual 75, 3) := by decide +kernel
theorem dL_law_164 : decode cL_law 164 = .ok (.bipush 20, 2) := by decide +kernel
theorem dL_law_166 : decode cL_law 166 = .ok (.if_icmp .ge 28, 3) := by decide +kernel
theorem dL_law_169 : decode cL_law 169 = .ok (.aload_n 1, 1) := by decide +kernel
theorem dL_law_170 : decode cL_law 170 = .ok (.iload 7, 2) := by decide +kernel
theorem dL_law_172 : decode cL_law 172 = .ok (.iconst 1, 1) := by decide +kernel
theorem dL_law_173 : decode cL_law 173 = .ok (.iload 6, 2) := by decide +kernel
theorem dL_law_175 : decode cL_law 175 = .ok (.iload 8, 2) := by decide +kernel
theorem dL_law_177 : decode cL_law 177 = .ok (.ishr, 1) := by decide +kernel
theorem dL_law_178 : decode cL_law 178 = .ok (.bipush 12, 2) := by decide +kernel
theorem dL_law_180 : decode cL_law 180 = .ok (.invokestatic 17, 3) := by decide +kernel
theorem dL_law_183 : decode cL_law 183 = .ok (.iadd, 1) := by decide +kernel
theorem dL_law_184 : decode cL_law 184 = .ok (.invokevirtual 109, 3) := by decide +kernel
theorem dL_law_187 : decode cL_law 187 = .ok (.pop, 1) := by decide +kernel
theorem dL_law_188 : decode cL_law 188 = .ok (.iinc 8 (-1), 3) := by decide +kernel
theorem dL_law_191 : decode cL_law 191 = .ok (.goto (-38), 3) := by decide +kernel
theorem dL_law_194 : decode cL_law 194 = .ok (.goto 285, 3) := by decide +kernel
theorem dL_law_197 : decode cL_law 197 = .ok (.aload 4, 2) := by decide +kernel
theorem dL_law_199 : decode cL_law 199 = .ok (.iload 6, 2) := by decide +kernel
theorem dL_law_201 : decode cL_law 201 = .ok (.iconst 2, 1) := by decide +kernel
theorem dL_law_202 : decode cL_law 202 = .ok (.ishr, 1) := by decide +kernel
theorem dL_law_203 : decode cL_law 203 = .ok (.bipush 12, 2) := by decide +kernel
theorem dL_law_205 : decode cL_law 205 = .ok (.invokestatic 17, 3) := by decide +kernel
theorem dL_law_208 : decode cL_law 208 = .ok (.iaload, 1) := by decide +kernel
theorem dL_law_209 : decode cL_law 209 = .ok (.istore 8, 2) := by decide +kernel
theorem dL_law_211 : decode cL_law 211 = .ok (.bipush 13, 2) := by decide +kernel
theorem dL_law_213 : decode cL_law 213 = .ok (.newarray .int, 2) := by decide +kernel
theorem dL_law_215 : decode cL_law 215 = .ok (.dup, 1) := by decide +kernel
theorem dL_law_216 : decode cL_law 216 = .ok (.iconst 0, 1) := by decide +kernel
theorem dL_law_217 : decode cL_law 217 = .ok (.iconst 1, 1) := by decide +kernel
theorem dL_law_218 : decode cL_law 218 = .ok (.iload 6, 2) := by decide +kernel
theorem dL_law_220 : decode cL_law 220 = .ok (.iconst 5, 1) := by decide +kernel
theorem dL_law_221 : decode cL_law 221 = .ok (.ishr, 1) := by decide +kernel
theorem dL_law_222 : decode cL_law 222 = .ok (.iconst 2, 1) := by decide +kernel
theorem dL_law_223 : decode cL_law 223 = .ok (.invokestatic 17, 3) := by decide +kernel
theorem dL_law_226 : decode cL_law 226 = .ok (.iadd, 1) := by decide +kernel
theorem dL_law_227 : decode cL_law 227 = .ok (.iastore, 1) := by decide +kernel
theorem dL_law_228 : decode cL_law 228 = .ok (.dup, 1) := by decide +kernel
theorem dL_law_229 : decode cL_law 229 = .ok (.iconst 1, 1) := by decide +kernel
theorem dL_law_230 : decode cL_law 230 = .ok (.iload 6, 2) := by decide +kernel
theorem dL_law_232 : decode cL_law 232 = .ok (.iconst 4, 1) := by decide +kernel
theorem dL_law_233 : decode cL_law 233 = .ok (.ishr, 1) := by decide +kernel
theorem dL_law_234 : decode cL_law 234 = .ok (.sipush 150, 3) := by decide +kernel
theorem dL_law_237 : decode cL_law 237 = .ok (.invokestatic 17, 3) := by decide +kernel
theorem dL_law_240 : decode cL_law 240 = .ok (.iastore, 1) := by decide +kernel
theorem dL_law_241 : decode cL_law 241 = .ok (.dup, 1) := by decide +kernel
theorem dL_law_242 : decode cL_law 242 = .ok (.iconst 2, 1) := by decide +kernel
theorem dL_law_243 : decode cL_law 243 = .ok (.iload 6, 2) := by decide +kernel
theorem dL_law_245 : decode cL_law 245 = .ok (.iconst 4, 1) := by decide +kernel
theorem dL_law_246 : decode cL_law 246 = .ok (.ishr, 1) := by decide +kernel
theorem dL_law_247 : decode cL_law 247 = .ok (.bipush 60, 2) := by decide +kernel
theorem dL_law_249 : decode cL_law 249 = .ok (.invokestatic 17, 3) := by decide +kernel
theorem dL_law_252 : decode cL_law 252 = .ok (.iastore, 1) := by decide +kernel
theorem dL_law_253 : decode cL_law 253 = .ok (.dup, 1) := by decide +kernel
theorem dL_law_254 : decode cL_law 254 = .ok (.iconst 3, 1) := by decide +kernel
theorem dL_law_255 : decode cL_law 255 = .ok (.iload 6, 2) := by decide +kernel
theorem dL_law_257 : decode cL_law 257 = .ok (.iconst 5, 1) := by decide +kernel
theorem dL_law_258 : decode cL_law 258 = .ok (.ishr, 1) := by decide +kernel
theorem dL_law_259 : decode cL_law 259 = .ok (.bipush 12, 2) := by decide +kernel
theorem dL_law_261 : decode cL_law 261 = .ok (.invokestatic 17, 3) := by decide +kernel
theorem dL_law_264 : decode cL_law 264 = .ok (.iastore, 1) := by decide +kernel
theorem dL_law_265 : decode cL_law 265 = .ok (.dup, 1) := by decide +kernel
theorem dL_law_266 : decode cL_law 266 = .ok (.iconst 4, 1) := by decide +kernel
theorem dL_law_267 : decode cL_law 267 = .ok (.iload 6, 2) := by decide +kernel
theorem dL_law_269 : decode cL_law 269 = .ok (.iconst 5, 1) := by decide +kernel
theorem dL_law_270 : decode cL_law 270 = .ok (.ishr, 1) := by decide +kernel
theorem dL_law_271 : decode cL_law 271 = .ok (.bipush 9, 2) := by decide +kernel
theorem dL_law_273 : decode cL_law 273 = .ok (.invokestatic 17, 3) := by decide +kernel
theorem dL_law_276 : decode cL_law 276 = .ok (.iastore, 1) := by decide +kernel
theorem dL_law_277 : decode cL_law 277 = .ok (.dup, 1) := by decide +kernel
theorem dL_law_278 : decode cL_law 278 = .ok (.iconst 5, 1) := by decide +kernel
theorem dL_law_279 : decode cL_law 279 = .ok (.iload 6, 2) := by decide +kernel
theorem dL_law_281 : decode cL_law 281 = .ok (.bipush 6, 2) := by decide +kernel
theorem dL_law_283 : decode cL_law 283 = .ok (.ishr, 1) := by decide +kernel
theorem dL_law_284 : decode cL_law 284 = .ok (.iconst 5, 1) := by decide +kernel
theorem dL_law_285 : decode cL_law 285 = .ok (.invokestatic 17, 3) := by decide +kernel
theorem dL_law_288 : decode cL_law 288 = .ok (.iastore, 1) := by decide +kernel
theorem dL_law_289 : decode cL_law 289 = .ok (.dup, 1) := by decide +kernel
theorem dL_law_290 : decode cL_law 290 = .ok (.bipush 6, 2) := by decide +kernel
theorem dL_law_292 : decode cL_law 292 = .ok (.iload 6, 2) := by decide +kernel
theorem dL_law_294 : decode cL_law 294 = .ok (.iconst 4, 1) := by decide +kernel
theorem dL_law_295 : decode cL_law 295 = .ok (.ishr, 1) := by decide +kernel
theorem dL_law_296 : decode cL_law 296 = .ok (.iconst 3, 1) := by decide +kernel
theorem dL_law_297 : decode cL_law 297 = .ok (.invokestatic 17, 3) := by decide +kernel
theorem dL_law_300 : decode cL_law 300 = .ok (.iastore, 1) := by decide +kernel
theorem dL_law_301 : decode cL_law 301 = .ok (.dup, 1) := by decide +kernel
theorem dL_law_302 : decode cL_law 302 = .ok (.bipush 7, 2) := by decide +kernel
theorem dL_law_304 : decode cL_law 304 = .ok (.iload 6, 2) := by decide +kernel
theorem dL_law_306 : decode cL_law 306 = .ok (.iconst 4, 1) := by decide +kernel
theorem dL_law_307 : decode cL_law 307 = .ok (.ishr, 1) := by decide +kernel
theorem dL_law_308 : decode cL_law 308 = .ok (.iconst 4, 1) := by decide +kernel
theorem dL_law_309 : decode cL_law 309 = .ok (.invokestatic 17, 3) := by decide +kernel
theorem dL_law_312 : decode cL_law 312 = .ok (.iastore, 1) := by decide +kernel
theorem dL_law_313 : decode cL_law 313 = .ok (.dup, 1) := by decide +kernel
theorem dL_law_314 : decode cL_law 314 = .ok (.bipush 8, 2) := by decide +kernel
theorem dL_law_316 : decode cL_law 316 = .ok (.iconst 0, 1) := by decide +kernel
theorem dL_law_317 : decode cL_law 317 = .ok (.iastore, 1) := by decide +kernel
theorem dL_law_318 : decode cL_law 318 = .ok (.dup, 1) := by decide +kernel
theorem dL_law_319 : decode cL_law 319 = .ok (.bipush 9, 2) := by decide +kernel
theorem dL_law_321 : decode cL_law 321 = .ok (.iconst 1, 1) := by decide +kernel
theorem dL_law_322 : decode cL_law 322 = .ok (.iload 6, 2) := by decide +kernel
theorem dL_law_324 : decode cL_law 324 = .ok (.iconst 5, 1) := by decide +kernel
theorem dL_law_325 : decode cL_law 325 = .ok (.ishr, 1) := by decide +kernel
theorem dL_law_326 : decode cL_law 326 = .ok (.bipush 12, 2) := by decide +kernel
theorem dL_law_328 : decode cL_law 328 = .ok (.invokestatic 17, 3) := by decide +kernel
theorem dL_law_331 : decode cL_law 331 = .ok (.iadd, 1) := by decide +kernel
theorem dL_law_332 : decode cL_law 332 = .ok (.iastore, 1) := by decide +kernel
theorem dL_law_333 : decode cL_law 333 = .ok (.dup, 1) := by decide +kernel
theorem dL_law_334 : decode cL_law 334 = .ok (.bipush 10, 2) := by decide +kernel
theorem dL_law_336 : decode cL_law 336 = .ok (.iload 6, 2) := by decide +kernel
theorem dL_law_338 : decode cL_law 338 = .ok (.iconst 4, 1) := by decide +kernel
theorem dL_law_339 : decode cL_law 339 = .ok (.ishr, 1) := by decide +kernel
theorem dL_law_340 : decode cL_law 340 = .ok (.iconst 3, 1) := by decide +kernel
theorem dL_law_341 : decode cL_law 341 = .ok (.invokestatic 17, 3) := by decide +kernel
theorem dL_law_344 : decode cL_law 344 = .ok (.iastore, 1) := by decide +kernel
theorem dL_law_345 : decode cL_law 345 = .ok (.dup, 1) := by decide +kernel
theorem dL_law_346 : decode cL_law 346 = .ok (.bipush 11, 2) := by decide +kernel
theorem dL_law_348 : decode cL_law 348 = .ok (.iload 6, 2) := by decide +kernel
theorem dL_law_350 : decode cL_law 350 = .ok (.iconst 5, 1) := by decide +kernel
theorem dL_law_351 : decode cL_law 351 = .ok (.ishr, 1) := by decide +kernel
theorem dL_law_352 : decode cL_law 352 = .ok (.iconst 2, 1) := by decide +kernel
theorem dL_law_353 : decode cL_law 353 = .ok (.invokestatic 17, 3) := by decide +kernel
theorem dL_law_356 : decode cL_law 356 = .ok (.iastore, 1) := by decide +kernel
theorem dL_law_357 : decode cL_law 357 = .ok (.dup, 1) := by decide +kernel
theorem dL_law_358 : decode cL_law 358 = .ok (.bipush 12, 2) := by decide +kernel
theorem dL_law_360 : decode cL_law 360 = .ok (.iload 6, 2) := by decide +kernel
theorem dL_law_362 : decode cL_law 362 = .ok (.iconst 4, 1) := by decide +kernel
theorem dL_law_363 : decode cL_law 363 = .ok (.ishr, 1) := by decide +kernel
theorem dL_law_364 : decode cL_law 364 = .ok (.bipush 61, 2) := by decide +kernel
theorem dL_law_366 : decode cL_law 366 = .ok (.invokestatic 17, 3) := by decide +kernel
theorem dL_law_369 : decode cL_law 369 = .ok (.bipush 30, 2) := by decide +kernel
theorem dL_law_371 : decode cL_law 371 = .ok (.isub, 1) := by decide +kernel
theorem dL_law_372 : decode cL_law 372 = .ok (.iastore, 1) := by decide +kernel
theorem dL_law_373 : decode cL_law 373 = .ok (.astore 9, 2) := by decide +kernel
theorem dL_law_375 : decode cL_law 375 = .ok (.aload 9, 2) := by decide +kernel
theorem dL_law_377 : decode cL_law 377 = .ok (.iload 8, 2) := by decide +kernel
theorem dL_law_379 : decode cL_law 379 = .ok (.iaload, 1) := by decide +kernel
theorem dL_law_380 : decode cL_law 380 = .ok (.istore 10, 2) := by decide +kernel
theorem dL_law_382 : decode cL_law 382 = .ok (.iload 6, 2) := by decide +kernel
theorem dL_law_384 : decode cL_law 384 = .ok (.bipush 6, 2) := by decide +kernel
theorem dL_law_386 : decode cL_law 386 = .ok (.ishr, 1) := by decide +kernel
theorem dL_law_387 : decode cL_law 387 = .ok (.iconst 2, 1) := by decide +kernel
theorem dL_law_388 : decode cL_law 388 = .ok (.invokestatic 17, 3) := by decide +kernel
theorem dL_law_391 : decode cL_law 391 = .ok (.ifCond .ne 17, 3) := by decide +kernel
theorem dL_law_394 : decode cL_law 394 = .ok (.aload_n 1, 1) := by decide +kernel
theorem dL_law_395 : decode cL_law 395 = .ok (.iload 7, 2) := by decide +kernel
theorem dL_law_397 : decode cL_law 397 = .ok (.iload 8, 2) := by decide +kernel
theorem dL_law_399 : decode cL_law 399 = .ok (.iload 10, 2) := by decide +kernel
theorem dL_law_401 : decode cL_law 401 = .ok (.invokevirtual 112, 3) := by decide +kernel
theorem dL_law_404 : decode cL_law 404 = .ok (.pop, 1) := by decide +kernel
theorem dL_law_405 : decode cL_law 405 = .ok (.goto 74, 3) := by decide +kernel
theorem dL_law_408 : decode cL_law 408 = .ok (.aload_n 1, 1) := by decide +kernel
theorem dL_law_409 : decode cL_law 409 = .ok (.iload 8, 2) := by decide +kernel
theorem dL_law_411 : decode cL_law 411 = .ok (.iload 10, 2) := by decide +kernel
theorem dL_law_413 : decode cL_law 413 = .ok (.iload 6, 2) := by decide +kernel
theorem dL_law_415 : decode cL_law 415 = .ok (.bipush 7, 2) := by decide +kernel
theorem dL_law_417 : decode cL_law 417 = .ok (.ishr, 1) := by decide +kernel
theorem dL_law_418 : decode cL_law 418 = .ok (.iconst 4, 1) := by decide +kernel
theorem dL_law_419 : decode cL_law 419 = .ok (.invokestatic 17, 3) := by decide +kernel
theorem dL_law_422 : decode cL_law 422 = .ok (.ifCond .ne 7, 3) := by decide +kernel
theorem dL_law_425 : decode cL_law 425 = .ok (.iconst 1, 1) := by decide +kernel
theorem dL_law_426 : decode cL_law 426 = .ok (.goto 4, 3) := by decide +kernel
theorem dL_law_429 : decode cL_law 429 = .ok (.iconst 0, 1) := by decide +kernel
theorem dL_law_430 : decode cL_law 430 = .ok (.invokevirtual 116, 3) := by decide +kernel
theorem dL_law_433 : decode cL_law 433 = .ok (.istore 11, 2) := by decide +kernel
theorem dL_law_435 : decode cL_law 435 = .ok (.aload_n 1, 1) := by decide +kernel
theorem dL_law_436 : decode cL_law 436 = .ok (.iload 11, 2) := by decide +kernel
theorem dL_law_438 : decode cL_law 438 = .ok (.aload_n 3, 1) := by decide +kernel
theorem dL_law_439 : decode cL_law 439 = .ok (.iload 7, 2) := by decide +kernel
theorem dL_law_441 : decode cL_law 441 = .ok (.aaload, 1) := by decide +kernel
theorem dL_law_442 : decode cL_law 442 = .ok (.iconst 2, 1) := by decide +kernel
theorem dL_law_443 : decode cL_law 443 = .ok (.iaload, 1) := by decide +kernel
theorem dL_law_444 : decode cL_law 444 = .ok (.iconst (-1), 1) := by decide +kernel
theorem dL_law_445 : decode cL_law 445 = .ok (.iconst 0, 1) := by decide +kernel
theorem dL_law_446 : decode cL_law 446 = .ok (.iconst 0, 1) := by decide +kernel
theorem dL_law_447 : decode cL_law 447 = .ok (.invokevirtual 120, 3) := by decide +kernel
theorem dL_law_450 : decode cL_law 450 = .ok (.pop, 1) := by decide +kernel
theorem dL_law_451 : decode cL_law 451 = .ok (.iload 6, 2) := by decide +kernel
theorem dL_law_453 : decode cL_law 453 = .ok (.bipush 8, 2) := by decide +kernel
theorem dL_law_455 : decode cL_law 455 = .ok (.ishr, 1) := by decide +kernel
theorem dL_law_456 : decode cL_law 456 = .ok (.iconst 3, 1) := by decide +kernel
theorem dL_law_457 : decode cL_law 457 = .ok (.invokestatic 17, 3) := by decide +kernel
theorem dL_law_460 : decode cL_law 460 = .ok (.ifCond .ne 19, 3) := by decide +kernel
theorem dL_law_463 : decode cL_law 463 = .ok (.aload_n 1, 1) := by decide +kernel
theorem dL_law_464 : decode cL_law 464 = .ok (.iload 7, 2) := by decide +kernel
theorem dL_law_466 : decode cL_law 466 = .ok (.iload 6, 2) := by decide +kernel
theorem dL_law_468 : decode cL_law 468 = .ok (.iconst 2, 1) := by decide +kernel
theorem dL_law_469 : decode cL_law 469 = .ok (.ishr, 1) := by decide +kernel
theorem dL_law_470 : decode cL_law 470 = .ok (.bipush 90, 2) := by decide +kernel
theorem dL_law_472 : decode cL_law 472 = .ok (.invokestatic 17, 3) := by decide +kernel
theorem dL_law_475 : decode cL_law 475 = .ok (.invokevirtual 124, 3) := by decide +kernel
theorem dL_law_478 : decode cL_law 478 = .ok (.pop, 1) := by decide +kernel
theorem dL_law_479 : decode cL_law 479 = .ok (.iinc 5 1, 3) := by decide +kernel
theorem dL_law_482 : decode cL_law 482 = .ok (.goto (-384), 3) := by decide +kernel
theorem dL_law_485 : decode cL_law 485 = .ok (.aload_n 1, 1) := by decide +kernel
theorem dL_law_486 : decode cL_law 486 = .ok (.invokestatic 127, 3) := by decide +kernel
theorem dL_law_489 : decode cL_law 489 = .ok (.ifCond .ne 5, 3) := by decide +kernel
theorem dL_law_492 : decode cL_law 492 = .ok (.iconst 0, 1) := by decide +kernel
theorem dL_law_493 : decode cL_law 493 = .ok (.ireturn, 1) := by decide +kernel
theorem dL_law_494 : decode cL_law 494 = .ok (.aload_n 1, 1) := by decide +kernel
theorem dL_law_495 : decode cL_law 495 = .ok (.invokevirtual 131, 3) := by decide +kernel
theorem dL_law_498 : decode cL_law 498 = .ok (.lstore 5, 2) := by decide +kernel
theorem dL_law_500 : decode cL_law 500 = .ok (.bipush 20, 2) := by decide +kernel
theorem dL_law_502 : decode cL_law 502 = .ok (.aload_n 0, 1) := by decide +kernel
theorem dL_law_503 : decode cL_law 503 = .ok (.iconst 3, 1) := by decide +kernel
theorem dL_law_504 : decode cL_law 504 = .ok (.invokestatic 11, 3) := by decide +kernel
theorem dL_law_507 : decode cL_law 507 = .ok (.sipush 500, 3) := by decide +kernel
theorem dL_law_510 : decode cL_law 510 = .ok (.invokestatic 17, 3) := by decide +kernel
theorem dL_law_513 : decode cL_law 513 = .ok (.iadd, 1) := by decide +kernel
theorem dL_law_514 : decode cL_law 514 = .ok (.istore 7, 2) := by decide +kernel
theorem dL_law_516 : decode cL_law 516 = .ok (.aload_n 1, 1) := by decide +kernel
theorem dL_law_517 : decode cL_law 517 = .ok (.iload 7, 2) := by decide +kernel
theorem dL_law_519 : decode cL_law 519 = .ok (.invokevirtual 135, 3) := by decide +kernel
theorem dL_law_522 : decode cL_law 522 = .ok (.istore 8, 2) := by decide +kernel
theorem dL_law_524 : decode cL_law 524 = .ok (.aload_n 1, 1) := by decide +kernel
theorem dL_law_525 : decode cL_law 525 = .ok (.invokevirtual 97, 3) := by decide +kernel
theorem dL_law_528 : decode cL_law 528 = .ok (.istore 9, 2) := by decide +kernel
theorem dL_law_530 : decode cL_law 530 = .ok (.aload_n 1, 1) := by decide +kernel
theorem dL_law_531 : decode cL_law 531 = .ok (.invokevirtual 87, 3) := by decide +kernel
theorem dL_law_534 : decode cL_law 534 = .ok (.ifCond .ne 7, 3) := by decide +kernel
theorem dL_law_537 : decode cL_law 537 = .ok (.iconst 0, 1) := by decide +kernel
theorem dL_law_538 : decode cL_law 538 = .ok (.goto 19, 3) := by decide +kernel
theorem dL_law_541 : decode cL_law 541 = .ok (.aload_n 1, 1) := by decide +kernel
theorem dL_law_542 : decode cL_law 542 = .ok (.aload_n 0, 1) := by decide +kernel
theorem dL_law_543 : decode cL_law 543 = .ok (.iconst 4, 1) := by decide +kernel
theorem dL_law_544 : decode cL_law 544 = .ok (.invokestatic 11, 3) := by decide +kernel
theorem dL_law_547 : decode cL_law 547 = .ok (.aload_n 1, 1) := by decide +kernel
theorem dL_law_548 : decode cL_law 548 = .ok (.invokevirtual 87, 3) := by decide +kernel
theorem dL_law_551 : decode cL_law 551 = .ok (.invokestatic 17, 3) := by decide +kernel
theorem dL_law_554 : decode cL_law 554 = .ok (.invokevirtual 138, 3) := by decide +kernel
theorem dL_law_557 : decode cL_law 557 = .ok (.istore 10, 2) := by decide +kernel
theorem dL_law_559 : decode cL_law 559 = .ok (.iload 10, 2) := by decide +kernel
theorem dL_law_561 : decode cL_law 561 = .ok (.ifCond .lt 34, 3) := by decide +kernel
theorem dL_law_564 : decode cL_law 564 = .ok (.iload 10, 2) := by decide +kernel
theorem dL_law_566 : decode cL_law 566 = .ok (.aload_n 1, 1) := by decide +kernel
theorem dL_law_567 : decode cL_law 567 = .ok (.invokevirtual 94, 3) := by decide +kernel
theorem dL_law_570 : decode cL_law 570 = .ok (.if_icmp .gt 25, 3) := by decide +kernel
theorem dL_law_573 : decode cL_law 573 = .ok (.aload_n 1, 1) := by decide +kernel
theorem dL_law_574 : decode cL_law 574 = .ok (.sipush (-5000), 3) := by decide +kernel
theorem dL_law_577 : decode cL_law 577 = .ok (.iconst 0, 1) := by decide +kernel
theorem dL_law_578 : decode cL_law 578 = .ok (.invokevirtual 141, 3) := by decide +kernel
theorem dL_law_581 : decode cL_law 581 = .ok (.iconst (-1), 1) := by decide +kernel
theorem dL_law_582 : decode cL_law 582 = .ok (.if_icmp .ne 13, 3) := by decide +kernel
theorem dL_law_585 : decode cL_law 585 = .ok (.aload_n 1, 1) := by decide +kernel
theorem dL_law_586 : decode cL_law 586 = .ok (.invokevirtual 131, 3) := by decide +kernel
theorem dL_law_589 : decode cL_law 589 = .ok (.lload 5, 2) := by decide +kernel
theorem dL_law_591 : decode cL_law 591 = .ok (.lcmp, 1) := by decide +kernel
theorem dL_law_592 : decode cL_law 592 = .ok (.ifCond .eq 5, 3) := by decide +kernel
theorem dL_law_595 : decode cL_law 595 = .ok (.iconst 0, 1) := by decide +kernel
theorem dL_law_596 : decode cL_law 596 = .ok (.ireturn, 1) := by decide +kernel
theorem dL_law_597 : decode cL_law 597 = .ok (.aload_n 1, 1) := by decide +kernel
theorem dL_law_598 : decode cL_law 598 = .ok (.iload 7, 2) := by decide +kernel
theorem dL_law_600 : decode cL_law 600 = .ok (.invokevirtual 144, 3) := by decide +kernel
theorem dL_law_603 : decode cL_law 603 = .ok (.istore 11, 2) := by decide +kernel
theorem dL_law_605 : decode cL_law 605 = .ok (.aload_n 1, 1) := by decide +kernel
theorem dL_law_606 : decode cL_law 606 = .ok (.invokevirtual 97, 3) := by decide +kernel
theorem dL_law_609 : decode cL_law 609 = .ok (.iload 8, 2) := by decide +kernel
theorem dL_law_611 : decode cL_law 611 = .ok (.if_icmp .ne 35, 3) := by decide +kernel
theorem dL_law_614 : decode cL_law 614 = .ok (.aload_n 1, 1) := by decide +kernel
theorem dL_law_615 : decode cL_law 615 = .ok (.iload 11, 2) := by decide +kernel
theorem dL_law_617 : decode cL_law 617 = .ok (.invokevirtual 135, 3) := by decide +kernel
theorem dL_law_620 : decode cL_law 620 = .ok (.iload 9, 2) := by decide +kernel
theorem dL_law_622 : decode cL_law 622 = .ok (.if_icmp .ne 24, 3) := by decide +kernel
theorem dL_law_625 : decode cL_law 625 = .ok (.aload_n 1, 1) := by decide +kernel
theorem dL_law_626 : decode cL_law 626 = .ok (.iload 11, 2) := by decide +kernel
theorem dL_law_628 : decode cL_law 628 = .ok (.invokevirtual 144, 3) := by decide +kernel
theorem dL_law_631 : decode cL_law 631 = .ok (.iload 7, 2) := by decide +kernel
theorem dL_law_633 : decode cL_law 633 = .ok (.if_icmp .ne 13, 3) := by decide +kernel
theorem dL_law_636 : decode cL_law 636 = .ok (.aload_n 1, 1) := by decide +kernel
theorem dL_law_637 : decode cL_law 637 = .ok (.invokevirtual 131, 3) := by decide +kernel
theorem dL_law_640 : decode cL_law 640 = .ok (.lload 5, 2) := by decide +kernel
theorem dL_law_642 : decode cL_law 642 = .ok (.lcmp, 1) := by decide +kernel
theorem dL_law_643 : decode cL_law 643 = .ok (.ifCond .eq 5, 3) := by decide +kernel
theorem dL_law_646 : decode cL_law 646 = .ok (.iconst 0, 1) := by decide +kernel
theorem dL_law_647 : decode cL_law 647 = .ok (.ireturn, 1) := by decide +kernel
theorem dL_law_648 : decode cL_law 648 = .ok (.iconst 1, 1) := by decide +kernel
theorem dL_law_649 : decode cL_law 649 = .ok (.aload_n 0, 1) := by decide +kernel
theorem dL_law_650 : decode cL_law 650 = .ok (.iconst 5, 1) := by decide +kernel
theorem dL_law_651 : decode cL_law 651 = .ok (.invokestatic 11, 3) := by decide +kernel
theorem dL_law_654 : decode cL_law 654 = .ok (.iload_n 2, 1) := by decide +kernel
theorem dL_law_655 : decode cL_law 655 = .ok (.iconst 1, 1) := by decide +kernel
theorem dL_law_656 : decode cL_law 656 = .ok (.isub, 1) := by decide +kernel
theorem dL_law_657 : decode cL_law 657 = .ok (.invokestatic 17, 3) := by decide +kernel
theorem dL_law_660 : decode cL_law 660 = .ok (.iadd, 1) := by decide +kernel
theorem dL_law_661 : decode cL_law 661 = .ok (.istore 12, 2) := by decide +kernel
theorem dL_law_663 : decode cL_law 663 = .ok (.aload_n 1, 1) := by decide +kernel
theorem dL_law_664 : decode cL_law 664 = .ok (.iload 12, 2) := by decide +kernel
theorem dL_law_666 : decode cL_law 666 = .ok (.invokevirtual 69, 3) := by decide +kernel
theorem dL_law_669 : decode cL_law 669 = .ok (.istore 13, 2) := by decide +kernel
theorem dL_law_671 : decode cL_law 671 = .ok (.iconst 0, 1) := by decide +kernel
theorem dL_law_672 : decode cL_law 672 = .ok (.istore 14, 2) := by decide +kernel
theorem dL_law_674 : decode cL_law 674 = .ok (.aload_n 1, 1) := by decide +kernel
theorem dL_law_675 : decode cL_law 675 = .ok (.iload 13, 2) := by decide +kernel
theorem dL_law_677 : decode cL_law 677 = .ok (.iload 14, 2) := by decide +kernel
theorem dL_law_679 : decode cL_law 679 = .ok (.invokevirtual 78, 3) := by decide +kernel
theorem dL_law_682 : decode cL_law 682 = .ok (.iload 12, 2) := by decide +kernel
theorem dL_law_684 : decode cL_law 684 = .ok (.if_icmp .eq 9, 3) := by decide +kernel
theorem dL_law_687 : decode cL_law 687 = .ok (.iinc 14 1, 3) := by decide +kernel
theorem dL_law_690 : decode cL_law 690 = .ok (.goto (-16), 3) := by decide +kernel
theorem dL_law_693 : decode cL_law 693 = .ok (.aload_n 1, 1) := by decide +kernel
theorem dL_law_694 : decode cL_law 694 = .ok (.iload 12, 2) := by decide +kernel
theorem dL_law_696 : decode cL_law 696 = .ok (.iconst 0, 1) := by decide +kernel
theorem dL_law_697 : decode cL_law 697 = .ok (.iconst 0, 1) := by decide +kernel
theorem dL_law_698 : decode cL_law 698 = .ok (.invokevirtual 147, 3) := by decide +kernel
theorem dL_law_701 : decode cL_law 701 = .ok (.iconst 1, 1) := by decide +kernel
theorem dL_law_702 : decode cL_law 702 = .ok (.if_icmp .lt 39, 3) := by decide +kernel
theorem dL_law_705 : decode cL_law 705 = .ok (.aload_n 1, 1) := by decide +kernel
theorem dL_law_706 : decode cL_law 706 = .ok (.invokestatic 127, 3) := by decide +kernel
theorem dL_law_709 : decode cL_law 709 = .ok (.ifCond .eq 32, 3) := by decide +kernel
theorem dL_law_712 : decode cL_law 712 = .ok (.aload_n 1, 1) := by decide +kernel
