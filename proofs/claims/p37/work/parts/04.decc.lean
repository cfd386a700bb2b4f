theorem dL_below_0 : decode cL_below 0 = .ok (.iload_n 0, 1) := by decide +kernel
theorem dL_below_1 : decode cL_below 1 = .ok (.ldc 7, 2) := by decide +kernel
theorem dL_below_3 : decode cL_below 3 = .ok (.iand, 1) := by decide +kernel
theorem dL_below_4 : decode cL_below 4 = .ok (.iload_n 1, 1) := by decide +kernel
theorem dL_below_5 : decode cL_below 5 = .ok (.irem, 1) := by decide +kernel
theorem dL_below_6 : decode cL_below 6 = .ok (.ireturn, 1) := by decide +kernel
theorem dL_cell_0 : decode cL_cell 0 = .ok (.iload_n 1, 1) := by decide +kernel
theorem dL_cell_1 : decode cL_cell 1 = .ok (.aload_n 0, 1) := by decide +kernel
theorem dL_cell_2 : decode cL_cell 2 = .ok (.arraylength, 1) := by decide +kernel
theorem dL_cell_3 : decode cL_cell 3 = .ok (.if_icmp .ge 9, 3) := by decide +kernel
theorem dL_cell_6 : decode cL_cell 6 = .ok (.aload_n 0, 1) := by decide +kernel
theorem dL_cell_7 : decode cL_cell 7 = .ok (.iload_n 1, 1) := by decide +kernel
theorem dL_cell_8 : decode cL_cell 8 = .ok (.iaload, 1) := by decide +kernel
theorem dL_cell_9 : decode cL_cell 9 = .ok (.goto 9, 3) := by decide +kernel
theorem dL_cell_12 : decode cL_cell 12 = .ok (.ldc 8, 2) := by decide +kernel
theorem dL_cell_14 : decode cL_cell 14 = .ok (.iload_n 1, 1) := by decide +kernel
theorem dL_cell_15 : decode cL_cell 15 = .ok (.iconst 3, 1) := by decide +kernel
theorem dL_cell_16 : decode cL_cell 16 = .ok (.iadd, 1) := by decide +kernel
theorem dL_cell_17 : decode cL_cell 17 = .ok (.imul, 1) := by decide +kernel
theorem dL_cell_18 : decode cL_cell 18 = .ok (.ireturn, 1) := by decide +kernel
theorem dL_law_0 : decode cL_law 0 = .ok (.new 9, 3) := by decide +kernel
theorem dL_law_3 : decode cL_law 3 = .ok (.dup, 1) := by decide +kernel
theorem dL_law_4 : decode cL_law 4 = .ok (.invokespecial 11, 3) := by decide +kernel
theorem dL_law_7 : decode cL_law 7 = .ok (.astore_n 1, 1) := by decide +kernel
theorem dL_law_8 : decode cL_law 8 = .ok (.iconst 0, 1) := by decide +kernel
theorem dL_law_9 : decode cL_law 9 = .ok (.istore_n 2, 1) := by decide +kernel
theorem dL_law_10 : decode cL_law 10 = .ok (.iload_n 2, 1) := by decide +kernel
theorem dL_law_11 : decode cL_law 11 = .ok (.iconst 4, 1) := by decide +kernel
theorem dL_law_12 : decode cL_law 12 = .ok (.if_icmp .ge 28, 3) := by decide +kernel
theorem dL_law_15 : decode cL_law 15 = .ok (.aload_n 1, 1) := by decide +kernel
theorem dL_law_16 : decode cL_law 16 = .ok (.aload_n 0, 1) := by decide +kernel
theorem dL_law_17 : decode cL_law 17 = .ok (.iload_n 2, 1) := by decide +kernel
theorem dL_law_18 : decode cL_law 18 = .ok (.invokestatic 12, 3) := by decide +kernel
theorem dL_law_21 : decode cL_law 21 = .ok (.iconst 4, 1) := by decide +kernel
theorem dL_law_22 : decode cL_law 22 = .ok (.invokestatic 18, 3) := by decide +kernel
theorem dL_law_25 : decode cL_law 25 = .ok (.invokevirtual 22, 3) := by decide +kernel
theorem dL_law_28 : decode cL_law 28 = .ok (.iload_n 2, 1) := by decide +kernel
theorem dL_law_29 : decode cL_law 29 = .ok (.if_icmp .eq 5, 3) := by decide +kernel
theorem dL_law_32 : decode cL_law 32 = .ok (.iconst 0, 1) := by decide +kernel
theorem dL_law_33 : decode cL_law 33 = .ok (.ireturn, 1) := by decide +kernel
theorem dL_law_34 : decode cL_law 34 = .ok (.iinc 2 1, 3) := by decide +kernel
theorem dL_law_37 : decode cL_law 37 = .ok (.goto (-27), 3) := by decide +kernel
theorem dL_law_40 : decode cL_law 40 = .ok (.iconst 0, 1) := by decide +kernel
theorem dL_law_41 : decode cL_law 41 = .ok (.istore_n 2, 1) := by decide +kernel
theorem dL_law_42 : decode cL_law 42 = .ok (.iload_n 2, 1) := by decide +kernel
theorem dL_law_43 : decode cL_law 43 = .ok (.bipush 6, 2) := by decide +kernel
theorem dL_law_45 : decode cL_law 45 = .ok (.if_icmp .ge 66, 3) := by decide +kernel
theorem dL_law_48 : decode cL_law 48 = .ok (.aload_n 1, 1) := by decide +kernel
theorem dL_law_49 : decode cL_law 49 = .ok (.aload_n 1, 1) := by decide +kernel
theorem dL_law_50 : decode cL_law 50 = .ok (.aload_n 0, 1) := by decide +kernel
theorem dL_law_51 : decode cL_law 51 = .ok (.iload_n 2, 1) := by decide +kernel
theorem dL_law_52 : decode cL_law 52 = .ok (.iconst 2, 1) := by decide +kernel
theorem dL_law_53 : decode cL_law 53 = .ok (.iadd, 1) := by decide +kernel
theorem dL_law_54 : decode cL_law 54 = .ok (.invokestatic 12, 3) := by decide +kernel
theorem dL_law_57 : decode cL_law 57 = .ok (.iconst 4, 1) := by decide +kernel
theorem dL_law_58 : decode cL_law 58 = .ok (.invokestatic 18, 3) := by decide +kernel
theorem dL_law_61 : decode cL_law 61 = .ok (.iconst 0, 1) := by decide +kernel
theorem dL_law_62 : decode cL_law 62 = .ok (.invokevirtual 26, 3) := by decide +kernel
theorem dL_law_65 : decode cL_law 65 = .ok (.iconst 1, 1) := by decide +kernel
theorem dL_law_66 : decode cL_law 66 = .ok (.aload_n 0, 1) := by decide +kernel
theorem dL_law_67 : decode cL_law 67 = .ok (.iload_n 2, 1) := by decide +kernel
theorem dL_law_68 : decode cL_law 68 = .ok (.invokestatic 12, 3) := by decide +kernel
theorem dL_law_71 : decode cL_law 71 = .ok (.iconst 2, 1) := by decide +kernel
theorem dL_law_72 : decode cL_law 72 = .ok (.ishr, 1) := by decide +kernel
theorem dL_law_73 : decode cL_law 73 = .ok (.bipush 9, 2) := by decide +kernel
theorem dL_law_75 : decode cL_law 75 = .ok (.invokestatic 18, 3) := by decide +kernel
theorem dL_law_78 : decode cL_law 78 = .ok (.iadd, 1) := by decide +kernel
theorem dL_law_79 : decode cL_law 79 = .ok (.iconst 1, 1) := by decide +kernel
theorem dL_law_80 : decode cL_law 80 = .ok (.aload_n 0, 1) := by decide +kernel
theorem dL_law_81 : decode cL_law 81 = .ok (.iload_n 2, 1) := by decide +kernel
theorem dL_law_82 : decode cL_law 82 = .ok (.iconst 1, 1) := by decide +kernel
theorem dL_law_83 : decode cL_law 83 = .ok (.iadd, 1) := by decide +kernel
theorem dL_law_84 : decode cL_law 84 = .ok (.invokestatic 12, 3) := by decide +kernel
theorem dL_law_87 : decode cL_law 87 = .ok (.iconst 3, 1) := by decide +kernel
theorem dL_law_88 : decode cL_law 88 = .ok (.ishr, 1) := by decide +kernel
theorem dL_law_89 : decode cL_law 89 = .ok (.sipush 255, 3) := by decide +kernel
theorem dL_law_92 : decode cL_law 92 = .ok (.invokestatic 18, 3) := by decide +kernel
theorem dL_law_95 : decode cL_law 95 = .ok (.iadd, 1) := by decide +kernel
theorem dL_law_96 : decode cL_law 96 = .ok (.invokevirtual 29, 3) := by decide +kernel
theorem dL_law_99 : decode cL_law 99 = .ok (.iload_n 2, 1) := by decide +kernel
theorem dL_law_100 : decode cL_law 100 = .ok (.if_icmp .eq 5, 3) := by decide +kernel
theorem dL_law_103 : decode cL_law 103 = .ok (.iconst 0, 1) := by decide +kernel
theorem dL_law_104 : decode cL_law 104 = .ok (.ireturn, 1) := by decide +kernel
theorem dL_law_105 : decode cL_law 105 = .ok (.iinc 2 1, 3) := by decide +kernel
theorem dL_law_108 : decode cL_law 108 = .ok (.goto (-66), 3) := by decide +kernel
theorem dL_law_111 : decode cL_law 111 = .ok (.iconst 0, 1) := by decide +kernel
theorem dL_law_112 : decode cL_law 112 = .ok (.istore_n 2, 1) := by decide +kernel
theorem dL_law_113 : decode cL_law 113 = .ok (.iload_n 2, 1) := by decide +kernel
theorem dL_law_114 : decode cL_law 114 = .ok (.bipush 6, 2) := by decide +kernel
theorem dL_law_116 : decode cL_law 116 = .ok (.if_icmp .ge 69, 3) := by decide +kernel
theorem dL_law_119 : decode cL_law 119 = .ok (.aload_n 1, 1) := by decide +kernel
theorem dL_law_120 : decode cL_law 120 = .ok (.aload_n 1, 1) := by decide +kernel
theorem dL_law_121 : decode cL_law 121 = .ok (.iload_n 2, 1) := by decide +kernel
theorem dL_law_122 : decode cL_law 122 = .ok (.iconst 4, 1) := by decide +kernel
theorem dL_law_123 : decode cL_law 123 = .ok (.irem, 1) := by decide +kernel
theorem dL_law_124 : decode cL_law 124 = .ok (.iconst 0, 1) := by decide +kernel
theorem dL_law_125 : decode cL_law 125 = .ok (.invokevirtual 26, 3) := by decide +kernel
theorem dL_law_128 : decode cL_law 128 = .ok (.iconst 1, 1) := by decide +kernel
theorem dL_law_129 : decode cL_law 129 = .ok (.aload_n 0, 1) := by decide +kernel
theorem dL_law_130 : decode cL_law 130 = .ok (.iload_n 2, 1) := by decide +kernel
theorem dL_law_131 : decode cL_law 131 = .ok (.iconst 4, 1) := by decide +kernel
theorem dL_law_132 : decode cL_law 132 = .ok (.iadd, 1) := by decide +kernel
theorem dL_law_133 : decode cL_law 133 = .ok (.invokestatic 12, 3) := by decide +kernel
theorem dL_law_136 : decode cL_law 136 = .ok (.bipush 9, 2) := by decide +kernel
theorem dL_law_138 : decode cL_law 138 = .ok (.invokestatic 18, 3) := by decide +kernel
theorem dL_law_141 : decode cL_law 141 = .ok (.iadd, 1) := by decide +kernel
theorem dL_law_142 : decode cL_law 142 = .ok (.iconst 1, 1) := by decide +kernel
theorem dL_law_143 : decode cL_law 143 = .ok (.aload_n 0, 1) := by decide +kernel
theorem dL_law_144 : decode cL_law 144 = .ok (.iload_n 2, 1) := by decide +kernel
theorem dL_law_145 : decode cL_law 145 = .ok (.iconst 5, 1) := by decide +kernel
theorem dL_law_146 : decode cL_law 146 = .ok (.iadd, 1) := by decide +kernel
theorem dL_law_147 : decode cL_law 147 = .ok (.invokestatic 12, 3) := by decide +kernel
theorem dL_law_150 : decode cL_law 150 = .ok (.iconst 2, 1) := by decide +kernel
theorem dL_law_151 : decode cL_law 151 = .ok (.ishr, 1) := by decide +kernel
theorem dL_law_152 : decode cL_law 152 = .ok (.bipush 8, 2) := by decide +kernel
theorem dL_law_154 : decode cL_law 154 = .ok (.invokestatic 18, 3) := by decide +kernel
theorem dL_law_157 : decode cL_law 157 = .ok (.iadd, 1) := by decide +kernel
theorem dL_law_158 : decode cL_law 158 = .ok (.invokevirtual 33, 3) := by decide +kernel
theorem dL_law_161 : decode cL_law 161 = .ok (.iload_n 2, 1) := by decide +kernel
theorem dL_law_162 : decode cL_law 162 = .ok (.if_icmp .ne 15, 3) := by decide +kernel
theorem dL_law_165 : decode cL_law 165 = .ok (.aload_n 1, 1) := by decide +kernel
theorem dL_law_166 : decode cL_law 166 = .ok (.iload_n 2, 1) := by decide +kernel
theorem dL_law_167 : decode cL_law 167 = .ok (.iload_n 2, 1) := by decide +kernel
theorem dL_law_168 : decode cL_law 168 = .ok (.iconst 4, 1) := by decide +kernel
theorem dL_law_169 : decode cL_law 169 = .ok (.irem, 1) := by decide +kernel
theorem dL_law_170 : decode cL_law 170 = .ok (.invokevirtual 36, 3) := by decide +kernel
theorem dL_law_173 : decode cL_law 173 = .ok (.iconst (-1), 1) := by decide +kernel
theorem dL_law_174 : decode cL_law 174 = .ok (.if_icmp .eq 5, 3) := by decide +kernel
theorem dL_law_177 : decode cL_law 177 = .ok (.iconst 0, 1) := by decide +kernel
theorem dL_law_178 : decode cL_law 178 = .ok (.ireturn, 1) := by decide +kernel
theorem dL_law_179 : decode cL_law 179 = .ok (.iinc 2 1, 3) := by decide +kernel
theorem dL_law_182 : decode cL_law 182 = .ok (.goto (-69), 3) := by decide +kernel
theorem dL_law_185 : decode cL_law 185 = .ok (.iconst 0, 1) := by decide +kernel
theorem dL_law_186 : decode cL_law 186 = .ok (.istore_n 2, 1) := by decide +kernel
theorem dL_law_187 : decode cL_law 187 = .ok (.iload_n 2, 1) := by decide +kernel
theorem dL_law_188 : decode cL_law 188 = .ok (.iconst 3, 1) := by decide +kernel
theorem dL_law_189 : decode cL_law 189 = .ok (.if_icmp .ge 33, 3) := by decide +kernel
theorem dL_law_192 : decode cL_law 192 = .ok (.aload_n 1, 1) := by decide +kernel
theorem dL_law_193 : decode cL_law 193 = .ok (.aload_n 0, 1) := by decide +kernel
theorem dL_law_194 : decode cL_law 194 = .ok (.iload_n 2, 1) := by decide +kernel
theorem dL_law_195 : decode cL_law 195 = .ok (.bipush 7, 2) := by decide +kernel
theorem dL_law_197 : decode cL_law 197 = .ok (.iadd, 1) := by decide +kernel
theorem dL_law_198 : decode cL_law 198 = .ok (.invokestatic 12, 3) := by decide +kernel
theorem dL_law_201 : decode cL_law 201 = .ok (.sipush 401, 3) := by decide +kernel
theorem dL_law_204 : decode cL_law 204 = .ok (.invokestatic 18, 3) := by decide +kernel
theorem dL_law_207 : decode cL_law 207 = .ok (.invokevirtual 39, 3) := by decide +kernel
theorem dL_law_210 : decode cL_law 210 = .ok (.iload_n 2, 1) := by decide +kernel
theorem dL_law_211 : decode cL_law 211 = .ok (.if_icmp .eq 5, 3) := by decide +kernel
theorem dL_law_214 : decode cL_law 214 = .ok (.iconst 0, 1) := by decide +kernel
theorem dL_law_215 : decode cL_law 215 = .ok (.ireturn, 1) := by decide +kernel
theorem dL_law_216 : decode cL_law 216 = .ok (.iinc 2 1, 3) := by decide +kernel
theorem dL_law_219 : decode cL_law 219 = .ok (.goto (-32), 3) := by decide +kernel
theorem dL_law_222 : decode cL_law 222 = .ok (.iconst 0, 1) := by decide +kernel
theorem dL_law_223 : decode cL_law 223 = .ok (.istore_n 2, 1) := by decide +kernel
theorem dL_law_224 : decode cL_law 224 = .ok (.iload_n 2, 1) := by decide +kernel
theorem dL_law_225 : decode cL_law 225 = .ok (.bipush 54, 2) := by decide +kernel
theorem dL_law_227 : decode cL_law 227 = .ok (.if_icmp .ge 590, 3) := by decide +kernel
theorem dL_law_230 : decode cL_law 230 = .ok (.aload_n 0, 1) := by decide +kernel
theorem dL_law_231 : decode cL_law 231 = .ok (.iload_n 2, 1) := by decide +kernel
theorem dL_law_232 : decode cL_law 232 = .ok (.bipush 16, 2) := by decide +kernel
theorem dL_law_234 : decode cL_law 234 = .ok (.irem, 1) := by decide +kernel
theorem dL_law_235 : decode cL_law 235 = .ok (.invokestatic 12, 3) := by decide +kernel
theorem dL_law_238 : decode cL_law 238 = .ok (.bipush 31, 2) := by decide +kernel
theorem dL_law_240 : decode cL_law 240 = .ok (.iload_n 2, 1) := by decide +kernel
theorem dL_law_241 : decode cL_law 241 = .ok (.imul, 1) := by decide +kernel
theorem dL_law_242 : decode cL_law 242 = .ok (.iadd, 1) := by decide +kernel
theorem dL_law_243 : decode cL_law 243 = .ok (.istore_n 3, 1) := by decide +kernel
theorem dL_law_244 : decode cL_law 244 = .ok (.aload_n 0, 1) := by decide +kernel
theorem dL_law_245 : decode cL_law 245 = .ok (.bipush 7, 2) := by decide +kernel
theorem dL_law_247 : decode cL_law 247 = .ok (.iload_n 2, 1) := by decide +kernel
theorem dL_law_248 : decode cL_law 248 = .ok (.imul, 1) := by decide +kernel
theorem dL_law_249 : decode cL_law 249 = .ok (.iconst 3, 1) := by decide +kernel
theorem dL_law_250 : decode cL_law 250 = .ok (.iadd, 1) := by decide +kernel
theorem dL_law_251 : decode cL_law 251 = .ok (.bipush 16, 2) := by decide +kernel
theorem dL_law_253 : decode cL_law 253 = .ok (.irem, 1) := by decide +kernel
theorem dL_law_254 : decode cL_law 254 = .ok (.invokestatic 12, 3) := by decide +kernel
theorem dL_law_257 : decode cL_law 257 = .ok (.iconst 5, 1) := by decide +kernel
theorem dL_law_258 : decode cL_law 258 = .ok (.iload_n 2, 1) := by decide +kernel
theorem dL_law_259 : decode cL_law 259 = .ok (.imul, 1) := by decide +kernel
theorem dL_law_260 : decode cL_law 260 = .ok (.iadd, 1) := by decide +kernel
theorem dL_law_261 : decode cL_law 261 = .ok (.istore 4, 2) := by decide +kernel
theorem dL_law_263 : decode cL_law 263 = .ok (.iload 4, 2) := by decide +kernel
theorem dL_law_265 : decode cL_law 265 = .ok (.iconst 4, 1) := by decide +kernel
theorem dL_law_266 : decode cL_law 266 = .ok (.invokestatic 18, 3) := by decide +kernel
theorem dL_law_269 : decode cL_law 269 = .ok (.istore 5, 2) := by decide +kernel
theorem dL_law_271 : decode cL_law 271 = .ok (.iload 4, 2) := by decide +kernel
theorem dL_law_273 : decode cL_law 273 = .ok (.iconst 2, 1) := by decide +kernel
theorem dL_law_274 : decode cL_law 274 = .ok (.ishr, 1) := by decide +kernel
theorem dL_law_275 : decode cL_law 275 = .ok (.bipush 6, 2) := by decide +kernel
theorem dL_law_277 : decode cL_law 277 = .ok (.invokestatic 18, 3) := by decide +kernel
theorem dL_law_280 : decode cL_law 280 = .ok (.istore 6, 2) := by decide +kernel
theorem dL_law_282 : decode cL_law 282 = .ok (.iload_n 3, 1) := by decide +kernel
theorem dL_law_283 : decode cL_law 283 = .ok (.iconst 5, 1) := by decide +kernel
theorem dL_law_284 : decode cL_law 284 = .ok (.ishr, 1) := by decide +kernel
theorem dL_law_285 : decode cL_law 285 = .ok (.bipush 6, 2) := by decide +kernel
theorem dL_law_287 : decode cL_law 287 = .ok (.invokestatic 18, 3) := by decide +kernel
theorem dL_law_290 : decode cL_law 290 = .ok (.istore 7, 2) := by decide +kernel
theorem dL_law_292 : decode cL_law 292 = .ok (.aload_n 1, 1) := by decide +kernel
theorem dL_law_293 : decode cL_law 293 = .ok (.iload 5, 2) := by decide +kernel
theorem dL_law_295 : decode cL_law 295 = .ok (.iconst 2, 1) := by decide +kernel
theorem dL_law_296 : decode cL_law 296 = .ok (.invokevirtual 26, 3) := by decide +kernel
theorem dL_law_299 : decode cL_law 299 = .ok (.ifCond .ne 7, 3) := by decide +kernel
theorem dL_law_302 : decode cL_law 302 = .ok (.iconst 1, 1) := by decide +kernel
theorem dL_law_303 : decode cL_law 303 = .ok (.goto 4, 3) := by decide +kernel
theorem dL_law_306 : decode cL_law 306 = .ok (.iconst 0, 1) := by decide +kernel
theorem dL_law_307 : decode cL_law 307 = .ok (.istore 8, 2) := by decide +kernel
theorem dL_law_309 : decode cL_law 309 = .ok (.iload_n 3, 1) := by decide +kernel
theorem dL_law_310 : decode cL_law 310 = .ok (.bipush 17, 2) := by decide +kernel
theorem dL_law_312 : decode cL_law 312 = .ok (.invokestatic 18, 3) := by decide +kernel
theorem dL_law_315 : decode cL_law 315 = .ok (.tableswitch 461 0 14 #[73, 73, 109, 136, 159, 159, 159, 182, 252, 252, 297, 324, 391, 391, 427], 73) := by decide +kernel
theorem dL_law_388 : decode cL_law 388 = .ok (.iload 8, 2) := by decide +kernel
theorem dL_law_390 : decode cL_law 390 = .ok (.ifCond .eq 412, 3) := by decide +kernel
theorem dL_law_393 : decode cL_law 393 = .ok (.aload_n 1, 1) := by decide +kernel
theorem dL_law_394 : decode cL_law 394 = .ok (.iload 5, 2) := by decide +kernel
theorem dL_law_396 : decode cL_law 396 = .ok (.iload 4, 2) := by decide +kernel
theorem dL_law_398 : decode cL_law 398 = .ok (.iconst 4, 1) := by decide +kernel
theorem dL_law_399 : decode cL_law 399 = .ok (.ishr, 1) := by decide +kernel
theorem dL_law_400 : decode cL_law 400 = .ok (.bipush 8, 2) := by decide +kernel
theorem dL_law_402 : decode cL_law 402 = .ok (.invokestatic 18, 3) := by decide +kernel
theorem dL_law_405 : decode cL_law 405 = .ok (.iload_n 3, 1) := by decide +kernel
theorem dL_law_406 : decode cL_law 406 = .ok (.iconst 4, 1) := by decide +kernel
theorem dL_law_407 : decode cL_law 407 = .ok (.ishr, 1) := by decide +kernel
theorem dL_law_408 : decode cL_law 408 = .ok (.bipush 41, 2) := by decide +kernel
theorem dL_law_410 : decode cL_law 410 = .ok (.invokestatic 18, 3) := by decide +kernel
theorem dL_law_413 : decode cL_law 413 = .ok (.bipush 20, 2) := by decide +kernel
theorem dL_law_415 : decode cL_law 415 = .ok (.isub, 1) := by decide +kernel
theorem dL_law_416 : decode cL_law 416 = .ok (.invokestatic 42, 3) := by decide +kernel
theorem dL_law_419 : decode cL_law 419 = .ok (.ifCond .ne 383, 3) := by decide +kernel
theorem dL_law_422 : decode cL_law 422 = .ok (.iconst 0, 1) := by decide +kernel
theorem dL_law_423 : decode cL_law 423 = .ok (.ireturn, 1) := by decide +kernel
theorem dL_law_424 : decode cL_law 424 = .ok (.iload 8, 2) := by decide +kernel
theorem dL_law_426 : decode cL_law 426 = .ok (.ifCond .eq 376, 3) := by decide +kernel
theorem dL_law_429 : decode cL_law 429 = .ok (.aload_n 1, 1) := by decide +kernel
theorem dL_law_430 : decode cL_law 430 = .ok (.iload 5, 2) := by decide +kernel
theorem dL_law_432 : decode cL_law 432 = .ok (.bipush 10, 2) := by decide +kernel
theorem dL_law_434 : decode cL_law 434 = .ok (.iload_n 3, 1) := by decide +kernel
theorem dL_law_435 : decode cL_law 435 = .ok (.iconst 4, 1) := by decide +kernel
theorem dL_law_436 : decode cL_law 436 = .ok (.ishr, 1) := by decide +kernel
theorem dL_law_437 : decode cL_law 437 = .ok (.bipush 111, 2) := by decide +kernel
theorem dL_law_439 : decode cL_law 439 = .ok (.invokestatic 18, 3) := by decide +kernel
theorem dL_law_442 : decode cL_law 442 = .ok (.iadd, 1) := by decide +kernel
theorem dL_law_443 : decode cL_law 443 = .ok (.invokestatic 46, 3) := by decide +kernel
theorem dL_law_446 : decode cL_law 446 = .ok (.ifCond .ne 356, 3) := by decide +kernel
theorem dL_law_449 : decode cL_law 449 = .ok (.iconst 0, 1) := by decide +kernel
theorem dL_law_450 : decode cL_law 450 = .ok (.ireturn, 1) := by decide +kernel
theorem dL_law_451 : decode cL_law 451 = .ok (.iload 8, 2) := by decide +kernel
theorem dL_law_453 : decode cL_law 453 = .ok (.ifCond .eq 349, 3) := by decide +kernel
theorem dL_law_456 : decode cL_law 456 = .ok (.aload_n 1, 1) := by decide +kernel
theorem dL_law_457 : decode cL_law 457 = .ok (.iload 5, 2) := by decide +kernel
theorem dL_law_459 : decode cL_law 459 = .ok (.invokevirtual 50, 3) := by decide +kernel
theorem dL_law_462 : decode cL_law 462 = .ok (.aload_n 1, 1) := by decide +kernel
theorem dL_law_463 : decode cL_law 463 = .ok (.iload 5, 2) := by decide +kernel
theorem dL_law_465 : decode cL_law 465 = .ok (.iconst 1, 1) := by decide +kernel
theorem dL_law_466 : decode cL_law 466 = .ok (.invokevirtual 26, 3) := by decide +kernel
theorem dL_law_469 : decode cL_law 469 = .ok (.if_icmp .eq 333, 3) := by decide +kernel
theorem dL_law_472 : decode cL_law 472 = .ok (.iconst 0, 1) := by decide +kernel
theorem dL_law_473 : decode cL_law 473 = .ok (.ireturn, 1) := by decide +kernel
theorem dL_law_474 : decode cL_law 474 = .ok (.aload_n 1, 1) := by decide +kernel
theorem dL_law_475 : decode cL_law 475 = .ok (.iload 6, 2) := by decide +kernel
theorem dL_law_477 : decode cL_law 477 = .ok (.iload 7, 2) := by decide +kernel
theorem dL_law_479 : decode cL_law 479 = .ok (.iconst 1, 1) := by decide +kernel
theorem dL_law_480 : decode cL_law 480 = .ok (.iload_n 3, 1) := by decide +kernel
theorem dL_law_481 : decode cL_law 481 = .ok (.iconst 3, 1) := by decide +kernel
theorem dL_law_482 : decode cL_law 482 = .ok (.ishr, 1) := by decide +kernel
theorem dL_law_483 : decode cL_law 483 = .ok (.bipush 60, 2) := by decide +kernel
theorem dL_law_485 : decode cL_law 485 = .ok (.invokestatic 18, 3) := by decide +kernel
theorem dL_law_488 : decode cL_law 488 = .ok (.iadd, 1) := by decide +kernel
theorem dL_law_489 : decode cL_law 489 = .ok (.invokestatic 53, 3) := by decide +kernel
theorem dL_law_492 : decode cL_law 492 = .ok (.ifCond .ne 310, 3) := by decide +kernel
theorem dL_law_495 : decode cL_law 495 = .ok (.iconst 0, 1) := by decide +kernel
theorem dL_law_496 : decode cL_law 496 = .ok (.ireturn, 1) := by decide +kernel
theorem dL_law_497 : decode cL_law 497 = .ok (.aload_n 1, 1) := by decide +kernel
theorem dL_law_498 : decode cL_law 498 = .ok (.iload 6, 2) := by decide +kernel
theorem dL_law_500 : decode cL_law 500 = .ok (.iload 7, 2) := by decide +kernel
theorem dL_law_502 : decode cL_law 502 = .ok (.invokevirtual 56, 3) := by decide +kernel
theorem dL_law_505 : decode cL_law 505 = .ok (.istore 9, 2) := by decide +kernel
theorem dL_law_507 : decode cL_law 507 = .ok (.aload_n 1, 1) := by decide +kernel
theorem dL_law_508 : decode cL_law 508 = .ok (.iload 7, 2) := by decide +kernel
theorem dL_law_510 : decode cL_law 510 = .ok (.iconst 3, 1) := by decide +kernel
theorem dL_law_511 : decode cL_law 511 = .ok (.invokevirtual 59, 3) := by decide +kernel
theorem dL_law_514 : decode cL_law 514 = .ok (.istore 10, 2) := by decide +kernel
theorem dL_law_516 : decode cL_law 516 = .ok (.aload_n 1, 1) := by decide +kernel
theorem dL_law_517 : decode cL_law 517 = .ok (.iload 7, 2) := by decide +kernel
theorem dL_law_519 : decode cL_law 519 = .ok (.iconst 1, 1) := by decide +kernel
theorem dL_law_520 : decode cL_law 520 = .ok (.iload 4, 2) := by decide +kernel
theorem dL_law_522 : decode cL_law 522 = .ok (.bipush 9, 2) := by decide +kernel
theorem dL_law_524 : decode cL_law 524 = .ok (.invokestatic 18, 3) := by decide +kernel
theorem dL_law_527 : decode cL_law 527 = .ok (.iadd, 1) := by decide +kernel
theorem dL_law_528 : decode cL_law 528 = .ok (.iconst 1, 1) := by decide +kernel
theorem dL_law_529 : decode cL_law 529 = .ok (.iload 4, 2) := by decide +kernel
theorem dL_law_531 : decode cL_law 531 = .ok (.iconst 3, 1) := by decide +kernel
theorem dL_law_532 : decode cL_law 532 = .ok (.ishr, 1) := by decide +kernel
theorem dL_law_533 : decode cL_law 533 = .ok (.sipush 255, 3) := by decide +kernel
theorem dL_law_536 : decode cL_law 536 = .ok (.invokestatic 18, 3) := by decide +kernel
theorem dL_law_539 : decode cL_law 539 = .ok (.iadd, 1) := by decide +kernel
theorem dL_law_540 : decode cL_law 540 = .ok (.invokevirtual 62, 3) := by decide +kernel
theorem dL_law_543 : decode cL_law 543 = .ok (.iload 10, 2) := by decide +kernel
theorem dL_law_545 : decode cL_law 545 = .ok (.iconst 1, 1) := by decide +kernel
theorem dL_law_546 : decode cL_law 546 = .ok (.iadd, 1) := by decide +kernel
theorem dL_law_547 : decode cL_law 547 = .ok (.if_icmp .ne 18, 3) := by decide +kernel
theorem dL_law_550 : decode cL_law 550 = .ok (.aload_n 1, 1) := by decide +kernel
theorem dL_law_551 : decode cL_law 551 = .ok (.iload 6, 2) := by decide +kernel
theorem dL_law_553 : decode cL_law 553 = .ok (.iload 7, 2) := by decide +kernel
theorem dL_law_555 : decode cL_law 555 = .ok (.invokevirtual 56, 3) := by decide +kernel
theorem dL_law_558 : decode cL_law 558 = .ok (.iload 9, 2) := by decide +kernel
theorem dL_law_560 : decode cL_law 560 = .ok (.iconst 2, 1) := by decide +kernel
theorem dL_law_561 : decode cL_law 561 = .ok (.idiv, 1) := by decide +kernel
theorem dL_law_562 : decode cL_law 562 = .ok (.if_icmp .le 240, 3) := by decide +kernel
theorem dL_law_565 : decode cL_law 565 = .ok (.iconst 0, 1) := by decide +kernel
theorem dL_law_566 : decode cL_law 566 = .ok (.ireturn, 1) := by decide +kernel
theorem dL_law_567 : decode cL_law 567 = .ok (.aload_n 1, 1) := by decide +kernel
theorem dL_law_568 : decode cL_law 568 = .ok (.iconst 3, 1) := by decide +kernel
theorem dL_law_569 : decode cL_law 569 = .ok (.invokevirtual 65, 3) := by decide +kernel
theorem dL_law_572 : decode cL_law 572 = .ok (.bipush 10, 2) := by decide +kernel
theorem dL_law_574 : decode cL_law 574 = .ok (.if_icmp .ge 228, 3) := by decide +kernel
theorem dL_law_577 : decode cL_law 577 = .ok (.aload_n 1, 1) := by decide +kernel
theorem dL_law_578 : decode cL_law 578 = .ok (.iload 7, 2) := by decide +kernel
theorem dL_law_580 : decode cL_law 580 = .ok (.invokevirtual 68, 3) := by decide +kernel
theorem dL_law_583 : decode cL_law 583 = .ok (.aload_n 1, 1) := by decide +kernel
theorem dL_law_584 : decode cL_law 584 = .ok (.iconst 3, 1) := by decide +kernel
theorem dL_law_585 : decode cL_law 585 = .ok (.invokevirtual 65, 3) := by decide +kernel
theorem dL_law_588 : decode cL_law 588 = .ok (.iconst 1, 1) := by decide +kernel
theorem dL_law_589 : decode cL_law 589 = .ok (.isub, 1) := by decide +kernel
theorem dL_law_590 : decode cL_law 590 = .ok (.if_icmp .ne 20, 3) := by decide +kernel
theorem dL_law_593 : decode cL_law 593 = .ok (.aload_n 1, 1) := by decide +kernel
theorem dL_law_594 : decode cL_law 594 = .ok (.aload_n 1, 1) := by decide +kernel
theorem dL_law_595 : decode cL_law 595 = .ok (.iconst 3, 1) := by decide +kernel
theorem dL_law_596 : decode cL_law 596 = .ok (.invokevirtual 65, 3) := by decide +kernel
theorem dL_law_599 : decode cL_law 599 = .ok (.iconst 1, 1) := by decide +kernel
theorem dL_law_600 : decode cL_law 600 = .ok (.isub, 1) := by decide +kernel
theorem dL_law_601 : decode cL_law 601 = .ok (.iconst 0, 1) := by decide +kernel
theorem dL_law_602 : decode cL_law 602 = .ok (.invokevirtual 71, 3) := by decide +kernel
theorem dL_law_605 : decode cL_law 605 = .ok (.iload 7, 2) := by decide +kernel
theorem dL_law_607 : decode cL_law 607 = .ok (.if_icmp .eq 195, 3) := by decide +kernel
theorem dL_law_610 : decode cL_law 610 = .ok (.iconst 0, 1) := by decide +kernel
theorem dL_law_611 : decode cL_law 611 = .ok (.ireturn, 1) := by decide +kernel
theorem dL_law_612 : decode cL_law 612 = .ok (.aload_n 1, 1) := by decide +kernel
theorem dL_law_613 : decode cL_law 613 = .ok (.iconst 3, 1) := by decide +kernel
theorem dL_law_614 : decode cL_law 614 = .ok (.invokevirtual 65, 3) := by decide +kernel
theorem dL_law_617 : decode cL_law 617 = .ok (.ifCond .le 185, 3) := by decide +kernel
theorem dL_law_620 : decode cL_law 620 = .ok (.aload_n 1, 1) := by decide +kernel
theorem dL_law_621 : decode cL_law 621 = .ok (.iload 4, 2) := by decide +kernel
theorem dL_law_623 : decode cL_law 623 = .ok (.aload_n 1, 1) := by decide +kernel
theorem dL_law_624 : decode cL_law 624 = .ok (.iconst 3, 1) := by decide +kernel
theorem dL_law_625 : decode cL_law 625 = .ok (.invokevirtual 65, 3) := by decide +kernel
theorem dL_law_628 : decode cL_law 628 = .ok (.invokestatic 18, 3) := by decide +kernel
theorem dL_law_631 : decode cL_law 631 = .ok (.invokevirtual 74, 3) := by decide +kernel
theorem dL_law_634 : decode cL_law 634 = .ok (.ifCond .ge 168, 3) := by decide +kernel
theorem dL_law_637 : decode cL_law 637 = .ok (.iconst 0, 1) := by decide +kernel
theorem dL_law_638 : decode cL_law 638 = .ok (.ireturn, 1) := by decide +kernel
theorem dL_law_639 : decode cL_law 639 = .ok (.iload 4, 2) := by decide +kernel
theorem dL_law_641 : decode cL_law 641 = .ok (.iconst 5, 1) := by decide +kernel
theorem dL_law_642 : decode cL_law 642 = .ok (.ishr, 1) := by decide +kernel
theorem dL_law_643 : decode cL_law 643 = .ok (.iconst 3, 1) := by decide +kernel
theorem dL_law_644 : decode cL_law 644 = .ok (.invokestatic 18, 3) := by decide +kernel
theorem dL_law_647 : decode cL_law 647 = .ok (.ifCond .ne 7, 3) := by decide +kernel
theorem dL_law_650 : decode cL_law 650 = .ok (.iconst 1, 1) := by decide +kernel
theorem dL_law_651 : decode cL_law 651 = .ok (.goto 4, 3) := by decide +kernel
theorem dL_law_654 : decode cL_law 654 = .ok (.iconst 0, 1) := by decide +kernel
theorem dL_law_655 : decode cL_law 655 = .ok (.istore 11, 2) := by decide +kernel
theorem dL_law_657 : decode cL_law 657 = .ok (.aload_n 1, 1) := by decide +kernel
theorem dL_law_658 : decode cL_law 658 = .ok (.iload 6, 2) := by decide +kernel
theorem dL_law_660 : decode cL_law 660 = .ok (.iconst 4, 1) := by decide +kernel
theorem dL_law_661 : decode cL_law 661 = .ok (.invokevirtual 77, 3) := by decide +kernel
theorem dL_law_664 : decode cL_law 664 = .ok (.iconst 1, 1) := by decide +kernel
theorem dL_law_665 : decode cL_law 665 = .ok (.if_icmp .ne 7, 3) := by decide +kernel
theorem dL_law_668 : decode cL_law 668 = .ok (.iconst 1, 1) := by decide +kernel
theorem dL_law_669 : decode cL_law 669 = .ok (.goto 4, 3) := by decide +kernel
theorem dL_law_672 : decode cL_law 672 = .ok (.iconst 0, 1) := by decide +kernel
theorem dL_law_673 : decode cL_law 673 = .ok (.istore 12, 2) := by decide +kernel
theorem dL_law_675 : decode cL_law 675 = .ok (.aload_n 1, 1) := by decide +kernel
theorem dL_law_676 : decode cL_law 676 = .ok (.iload 6, 2) := by decide +kernel
theorem dL_law_678 : decode cL_law 678 = .ok (.iload 11, 2) := by decide +kernel
theorem dL_law_680 : decode cL_law 680 = .ok (.invokevirtual 80, 3) := by decide +kernel
theorem dL_law_683 : decode cL_law 683 = .ok (.iload 12, 2) := by decide +kernel
theorem dL_law_685 : decode cL_law 685 = .ok (.if_icmp .ne 19, 3) := by decide +kernel
theorem dL_law_688 : decode cL_law 688 = .ok (.iload 11, 2) := by decide +kernel
theorem dL_law_690 : decode cL_law 690 = .ok (.ifCond .eq 112, 3) := by decide +kernel
theorem dL_law_693 : decode cL_law 693 = .ok (.aload_n 1, 1) := by decide +kernel
theorem dL_law_694 : decode cL_law 694 = .ok (.iload 6, 2) := by decide +kernel
theorem dL_law_696 : decode cL_law 696 = .ok (.iconst 5, 1) := by decide +kernel
theorem dL_law_697 : decode cL_law 697 = .ok (.invokevirtual 77, 3) := by decide +kernel
theorem dL_law_700 : decode cL_law 700 = .ok (.iconst 1, 1) := by decide +kernel
theorem dL_law_701 : decode cL_law 701 = .ok (.if_icmp .ne 101, 3) := by decide +kernel
theorem dL_law_704 : decode cL_law 704 = .ok (.iconst 0, 1) := by decide +kernel
theorem dL_law_705 : decode cL_law 705 = .ok (.ireturn, 1) := by decide +kernel
theorem dL_law_706 : decode cL_law 706 = .ok (.aload_n 1, 1) := by decide +kernel
theorem dL_law_707 : decode cL_law 707 = .ok (.bipush 12, 2) := by decide +kernel
theorem dL_law_709 : decode cL_law 709 = .ok (.invokevirtual 65, 3) := by decide +kernel
theorem dL_law_712 : decode cL_law 712 = .ok (.bipush 60, 2) := by decide +kernel
theorem dL_law_714 : decode cL_law 714 = .ok (.if_icmp .ge 88, 3) := by decide +kernel
theorem dL_law_717 : decode cL_law 717 = .ok (.aload_n 1, 1) := by decide +kernel
theorem dL_law_718 : decode cL_law 718 = .ok (.bipush 10, 2) := by decide +kernel
theorem dL_law_720 : decode cL_law 720 = .ok (.iload_n 3, 1) := by decide +kernel
theorem dL_law_721 : decode cL_law 721 = .ok (.iconst 3, 1) := by decide +kernel
theorem dL_law_722 : decode cL_law 722 = .ok (.ishr, 1) := by decide +kernel
theorem dL_law_723 : decode cL_law 723 = .ok (.bipush 51, 2) := by decide +kernel
theorem dL_law_725 : decode cL_law 725 = .ok (.invokestatic 18, 3) := by decide +kernel
theorem dL_law_728 : decode cL_law 728 = .ok (.iadd, 1) := by decide +kernel
theorem dL_law_729 : decode cL_law 729 = .ok (.invokevirtual 84, 3) := by decide +kernel
theorem dL_law_732 : decode cL_law 732 = .ok (.aload_n 1, 1) := by decide +kernel
theorem dL_law_733 : decode cL_law 733 = .ok (.iconst 5, 1) := by decide +kernel
theorem dL_law_734 : decode cL_law 734 = .ok (.invokevirtual 65, 3) := by decide +kernel
theorem dL_law_737 : decode cL_law 737 = .ok (.if_icmp .eq 65, 3) := by decide +kernel
theorem dL_law_740 : decode cL_law 740 = .ok (.iconst 0, 1) := by decide +kernel
theorem dL_law_741 : decode cL_law 741 = .ok (.ireturn, 1) := by decide +kernel
theorem dL_law_742 : decode cL_law 742 = .ok (.aload_n 1, 1) := by decide +kernel
theorem dL_law_743 : decode cL_law 743 = .ok (.bipush 9, 2) := by decide +kernel
theorem dL_law_745 : decode cL_law 745 = .ok (.invokevirtual 65, 3) := by decide +kernel
theorem dL_law_748 : decode cL_law 748 = .ok (.ifCond .ne 54, 3) := by decide +kernel
theorem dL_law_751 : decode cL_law 751 = .ok (.aload_n 1, 1) := by decide +kernel
theorem dL_law_752 : decode cL_law 752 = .ok (.iconst 5, 1) := by decide +kernel
theorem dL_law_753 : decode cL_law 753 = .ok (.invokevirtual 65, 3) := by decide +kernel
theorem dL_law_756 : decode cL_law 756 = .ok (.ifCond .le 46, 3) := by decide +kernel
theorem dL_law_759 : decode cL_law 759 = .ok (.aload_n 1, 1) := by decide +kernel
theorem dL_law_760 : decode cL_law 760 = .ok (.iconst 3, 1) := by decide +kernel
theorem dL_law_761 : decode cL_law 761 = .ok (.invokevirtual 65, 3) := by decide +kernel
theorem dL_law_764 : decode cL_law 764 = .ok (.ifCond .le 38, 3) := by decide +kernel
theorem dL_law_767 : decode cL_law 767 = .ok (.aload_n 1, 1) := by decide +kernel
theorem dL_law_768 : decode cL_law 768 = .ok (.invokestatic 87, 3) := by decide +kernel
theorem dL_law_771 : decode cL_law 771 = .ok (.ifCond .ne 31, 3) := by decide +kernel
theorem dL_law_774 : decode cL_law 774 = .ok (.iconst 0, 1) := by decide +kernel
theorem dL_law_775 : decode cL_law 775 = .ok (.ireturn, 1) := by decide +kernel
theorem dL_law_776 : decode cL_law 776 = .ok (.aload_n 1, 1) := by decide +kernel
theorem dL_law_777 : decode cL_law 777 = .ok (.iload_n 3, 1) := by decide +kernel
theorem dL_law_778 : decode cL_law 778 = .ok (.iconst 3, 1) := by decide +kernel
theorem dL_law_779 : decode cL_law 779 = .ok (.ishr, 1) := by decide +kernel
theorem dL_law_780 : decode cL_law 780 = .ok (.bipush 10, 2) := by decide +kernel
theorem dL_law_782 : decode cL_law 782 = .ok (.invokestatic 18, 3) := by decide +kernel
theorem dL_law_785 : decode cL_law 785 = .ok (.iload 4, 2) := by decide +kernel
theorem dL_law_787 : decode cL_law 787 = .ok (.iconst 3, 1) := by decide +kernel
theorem dL_law_788 : decode cL_law 788 = .ok (.ishr, 1) := by decide +kernel
theorem dL_law_789 : decode cL_law 789 = .ok (.bipush 10, 2) := by decide +kernel
theorem dL_law_791 : decode cL_law 791 = .ok (.invokestatic 18, 3) := by decide +kernel
theorem dL_law_794 : decode cL_law 794 = .ok (.invokestatic 91, 3) := by decide +kernel
theorem dL_law_797 : decode cL_law 797 = .ok (.ifCond .ne 5, 3) := by decide +kernel
theorem dL_law_800 : decode cL_law 800 = .ok (.iconst 0, 1) := by decide +kernel
theorem dL_law_801 : decode cL_law 801 = .ok (.ireturn, 1) := by decide +kernel
theorem dL_law_802 : decode cL_law 802 = .ok (.aload_n 1, 1) := by decide +kernel
theorem dL_law_803 : decode cL_law 803 = .ok (.invokestatic 94, 3) := by decide +kernel
theorem dL_law_806 : decode cL_law 806 = .ok (.ifCond .ne 5, 3) := by decide +kernel
theorem dL_law_809 : decode cL_law 809 = .ok (.iconst 0, 1) := by decide +kernel
theorem dL_law_810 : decode cL_law 810 = .ok (.ireturn, 1) := by decide +kernel
theorem dL_law_811 : decode cL_law 811 = .ok (.iinc 2 1, 3) := by decide +kernel
theorem dL_law_814 : decode cL_law 814 = .ok (.goto (-590), 3) := by decide +kernel
theorem dL_law_817 : decode cL_law 817 = .ok (.aload_n 1, 1) := by decide +kernel
theorem dL_law_818 : decode cL_law 818 = .ok (.invokevirtual 97, 3) := by decide +kernel
theorem dL_law_821 : decode cL_law 821 = .ok (.lstore_n 2, 1) := by decide +kernel
theorem dL_law_822 : decode cL_law 822 = .ok (.aload_n 1, 1) := by decide +kernel
theorem dL_law_823 : decode cL_law 823 = .ok (.bipush 10, 2) := by decide +kernel
theorem dL_law_825 : decode cL_law 825 = .ok (.invokevirtual 65, 3) := by decide +kernel
theorem dL_law_828 : decode cL_law 828 = .ok (.istore 4, 2) := by decide +kernel
theorem dL_law_830 : decode cL_law 830 = .ok (.aload_n 1, 1) := by decide +kernel
theorem dL_law_831 : decode cL_law 831 = .ok (.iconst 0, 1) := by decide +kernel
theorem dL_law_832 : decode cL_law 832 = .ok (.invokevirtual 101, 3) := by decide +kernel
theorem dL_law_835 : decode cL_law 835 = .ok (.iload 4, 2) := by decide +kernel
theorem dL_law_837 : decode cL_law 837 = .ok (.if_icmp .ne 55, 3) := by decide +kernel
theorem dL_law_840 : decode cL_law 840 = .ok (.aload_n 1, 1) := by decide +kernel
theorem dL_law_841 : decode cL_law 841 = .ok (.bipush 60, 2) := by decide +kernel
theorem dL_law_843 : decode cL_law 843 = .ok (.invokevirtual 101, 3) := by decide +kernel
theorem dL_law_846 : decode cL_law 846 = .ok (.iload 4, 2) := by decide +kernel
theorem dL_law_848 : decode cL_law 848 = .ok (.if_icmp .gt 44, 3) := by decide +kernel
theorem dL_law_851 : decode cL_law 851 = .ok (.aload_n 1, 1) := by decide +kernel
theorem dL_law_852 : decode cL_law 852 = .ok (.iconst 3, 1) := by decide +kernel
theorem dL_law_853 : decode cL_law 853 = .ok (.invokevirtual 65, 3) := by decide +kernel
theorem dL_law_856 : decode cL_law 856 = .ok (.bipush 6, 2) := by decide +kernel
theorem dL_law_858 : decode cL_law 858 = .ok (.if_icmp .ge 12, 3) := by decide +kernel
theorem dL_law_861 : decode cL_law 861 = .ok (.aload_n 1, 1) := by decide +kernel
theorem dL_law_862 : decode cL_law 862 = .ok (.invokevirtual 104, 3) := by decide +kernel
theorem dL_law_865 : decode cL_law 865 = .ok (.iload 4, 2) := by decide +kernel
theorem dL_law_867 : decode cL_law 867 = .ok (.if_icmp .lt 25, 3) := by decide +kernel
theorem dL_law_870 : decode cL_law 870 = .ok (.aload_n 1, 1) := by decide +kernel
theorem dL_law_871 : decode cL_law 871 = .ok (.iconst 0, 1) := by decide +kernel
theorem dL_law_872 : decode cL_law 872 = .ok (.bipush 30, 2) := by decide +kernel
theorem dL_law_874 : decode cL_law 874 = .ok (.invokevirtual 108, 3) := by decide +kernel
theorem dL_law_877 : decode cL_law 877 = .ok (.iconst (-1), 1) := by decide +kernel
theorem dL_law_878 : decode cL_law 878 = .ok (.if_icmp .lt 14, 3) := by decide +kernel
theorem dL_law_881 : decode cL_law 881 = .ok (.aload_n 1, 1) := by decide +kernel
theorem dL_law_882 : decode cL_law 882 = .ok (.invokevirtual 111, 3) := by decide +kernel
theorem dL_law_885 : decode cL_law 885 = .ok (.ldc2_w 115, 3) := by decide +kernel
theorem dL_law_888 : decode cL_law 888 = .ok (.dcmp .l, 1) := by decide +kernel
theorem dL_law_889 : decode cL_law 889 = .ok (.ifCond .le 5, 3) := by decide +kernel
theorem dL_law_892 : decode cL_law 892 = .ok (.iconst 0, 1) := by decide +kernel
theorem dL_law_893 : decode cL_law 893 = .ok (.ireturn, 1) := by decide +kernel
theorem dL_law_894 : decode cL_law 894 = .ok (.aload_n 1, 1) := by decide +kernel
theorem dL_law_895 : decode cL_law 895 = .ok (.invokevirtual 97, 3) := by decide +kernel
theorem dL_law_898 : decode cL_law 898 = .ok (.lload_n 2, 1) := by decide +kernel
theorem dL_law_899 : decode cL_law 899 = .ok (.lcmp, 1) := by decide +kernel
theorem dL_law_900 : decode cL_law 900 = .ok (.ifCond .ne 7, 3) := by decide +kernel
theorem dL_law_903 : decode cL_law 903 = .ok (.iconst 1, 1) := by decide +kernel
theorem dL_law_904 : decode cL_law 904 = .ok (.goto 4, 3) := by decide +kernel
theorem dL_law_907 : decode cL_law 907 = .ok (.iconst 0, 1) := by decide +kernel
theorem dL_law_908 : decode cL_law 908 = .ok (.ireturn, 1) := by decide +kernel
theorem dL_isHit_0 : decode cL_isHit 0 = .ok (.iload_n 3, 1) := by decide +kernel
theorem dL_isHit_1 : decode cL_isHit 1 = .ok (.ifCond .ne 5, 3) := by decide +kernel
theorem dL_isHit_4 : decode cL_isHit 4 = .ok (.iconst 1, 1) := by decide +kernel
theorem dL_isHit_5 : decode cL_isHit 5 = .ok (.ireturn, 1) := by decide +kernel
theorem dL_isHit_6 : decode cL_isHit 6 = .ok (.aload_n 0, 1) := by decide +kernel
theorem dL_isHit_7 : decode cL_isHit 7 = .ok (.iload_n 1, 1) := by decide +kernel
theorem dL_isHit_8 : decode cL_isHit 8 = .ok (.iconst 1, 1) := by decide +kernel
theorem dL_isHit_9 : decode cL_isHit 9 = .ok (.invokevirtual 26, 3) := by decide +kernel
theorem dL_isHit_12 : decode cL_isHit 12 = .ok (.istore 4, 2) := by decide +kernel
theorem dL_isHit_14 : decode cL_isHit 14 = .ok (.aload_n 0, 1) := by decide +kernel
theorem dL_isHit_15 : decode cL_isHit 15 = .ok (.iload_n 1, 1) := by decide +kernel
theorem dL_isHit_16 : decode cL_isHit 16 = .ok (.iload_n 2, 1) := by decide +kernel
theorem dL_isHit_17 : decode cL_isHit 17 = .ok (.invokevirtual 117, 3) := by decide +kernel
theorem dL_isHit_20 : decode cL_isHit 20 = .ok (.istore 5, 2) := by decide +kernel
theorem dL_isHit_22 : decode cL_isHit 22 = .ok (.aload_n 0, 1) := by decide +kernel
theorem dL_isHit_23 : decode cL_isHit 23 = .ok (.iload_n 1, 1) := by decide +kernel
theorem dL_isHit_24 : decode cL_isHit 24 = .ok (.iload_n 2, 1) := by decide +kernel
theorem dL_isHit_25 : decode cL_isHit 25 = .ok (.iconst 4, 1) := by decide +kernel
theorem dL_isHit_26 : decode cL_isHit 26 = .ok (.iadd, 1) := by decide +kernel
theorem dL_isHit_27 : decode cL_isHit 27 = .ok (.bipush 8, 2) := by decide +kernel
theorem dL_isHit_29 : decode cL_isHit 29 = .ok (.irem, 1) := by decide +kernel
theorem dL_isHit_30 : decode cL_isHit 30 = .ok (.invokevirtual 117, 3) := by decide +kernel
theorem dL_isHit_33 : decode cL_isHit 33 = .ok (.istore 6, 2) := by decide +kernel
theorem dL_isHit_35 : decode cL_isHit 35 = .ok (.aload_n 0, 1) := by decide +kernel
theorem dL_isHit_36 : decode cL_isHit 36 = .ok (.iload_n 1, 1) := by decide +kernel
theorem dL_isHit_37 : decode cL_isHit 37 = .ok (.iload_n 2, 1) := by decide +kernel
theorem dL_isHit_38 : decode cL_isHit 38 = .ok (.iload_n 3, 1) := by decide +kernel
theorem dL_isHit_39 : decode cL_isHit 39 = .ok (.invokevirtual 120, 3) := by decide +kernel
theorem dL_isHit_42 : decode cL_isHit 42 = .ok (.istore 7, 2) := by decide +kernel
theorem dL_isHit_44 : decode cL_isHit 44 = .ok (.iload 7, 2) := by decide +kernel
theorem dL_isHit_46 : decode cL_isHit 46 = .ok (.bipush (-99), 2) := by decide +kernel
theorem dL_isHit_48 : decode cL_isHit 48 = .ok (.bipush 99, 2) := by decide +kernel
theorem dL_isHit_50 : decode cL_isHit 50 = .ok (.iload 5, 2) := by decide +kernel
theorem dL_isHit_52 : decode cL_isHit 52 = .ok (.iload_n 3, 1) := by decide +kernel
theorem dL_isHit_53 : decode cL_isHit 53 = .ok (.iadd, 1) := by decide +kernel
theorem dL_isHit_54 : decode cL_isHit 54 = .ok (.invokestatic 123, 3) := by decide +kernel
theorem dL_isHit_57 : decode cL_isHit 57 = .ok (.invokestatic 128, 3) := by decide +kernel
theorem dL_isHit_60 : decode cL_isHit 60 = .ok (.if_icmp .ne 39, 3) := by decide +kernel
theorem dL_isHit_63 : decode cL_isHit 63 = .ok (.aload_n 0, 1) := by decide +kernel
theorem dL_isHit_64 : decode cL_isHit 64 = .ok (.iload_n 1, 1) := by decide +kernel
theorem dL_isHit_65 : decode cL_isHit 65 = .ok (.iload_n 2, 1) := by decide +kernel
theorem dL_isHit_66 : decode cL_isHit 66 = .ok (.iconst 4, 1) := by decide +kernel
theorem dL_isHit_67 : decode cL_isHit 67 = .ok (.iadd, 1) := by decide +kernel
theorem dL_isHit_68 : decode cL_isHit 68 = .ok (.bipush 8, 2) := by decide +kernel
theorem dL_isHit_70 : decode cL_isHit 70 = .ok (.irem, 1) := by decide +kernel
theorem dL_isHit_71 : decode cL_isHit 71 = .ok (.invokevirtual 117, 3) := by decide +kernel
theorem dL_isHit_74 : decode cL_isHit 74 = .ok (.iload 6, 2) := by decide +kernel
theorem dL_isHit_76 : decode cL_isHit 76 = .ok (.if_icmp .ne 23, 3) := by decide +kernel
theorem dL_isHit_79 : decode cL_isHit 79 = .ok (.aload_n 0, 1) := by decide +kernel
theorem dL_isHit_80 : decode cL_isHit 80 = .ok (.iload_n 1, 1) := by decide +kernel
theorem dL_isHit_81 : decode cL_isHit 81 = .ok (.iconst 1, 1) := by decide +kernel
theorem dL_isHit_82 : decode cL_isHit 82 = .ok (.invokevirtual 26, 3) := by decide +kernel
theorem dL_isHit_85 : decode cL_isHit 85 = .ok (.iload 4, 2) := by decide +kernel
theorem dL_isHit_87 : decode cL_isHit 87 = .ok (.iload_n 3, 1) := by decide +kernel
theorem dL_isHit_88 : decode cL_isHit 88 = .ok (.invokestatic 131, 3) := by decide +kernel
theorem dL_isHit_91 : decode cL_isHit 91 = .ok (.iadd, 1) := by decide +kernel
theorem dL_isHit_92 : decode cL_isHit 92 = .ok (.if_icmp .ne 7, 3) := by decide +kernel
theorem dL_isHit_95 : decode cL_isHit 95 = .ok (.iconst 1, 1) := by decide +kernel
theorem dL_isHit_96 : decode cL_isHit 96 = .ok (.goto 4, 3) := by decide +kernel
theorem dL_isHit_99 : decode cL_isHit 99 = .ok (.iconst 0, 1) := by decide +kernel
theorem dL_isHit_100 : decode cL_isHit 100 = .ok (.ireturn, 1) := by decide +kernel
theorem dL_isTuned_0 : decode cL_isTuned 0 = .ok (.aload_n 0, 1) := by decide +kernel
theorem dL_isTuned_1 : decode cL_isTuned 1 = .ok (.iload_n 1, 1) := by decide +kernel
theorem dL_isTuned_2 : decode cL_isTuned 2 = .ok (.invokevirtual 134, 3) := by decide +kernel
theorem dL_isTuned_5 : decode cL_isTuned 5 = .ok (.istore_n 3, 1) := by decide +kernel
theorem dL_isTuned_6 : decode cL_isTuned 6 = .ok (.aload_n 0, 1) := by decide +kernel
theorem dL_isTuned_7 : decode cL_isTuned 7 = .ok (.bipush 7, 2) := by decide +kernel
theorem dL_isTuned_9 : decode cL_isTuned 9 = .ok (.invokevirtual 65, 3) := by decide +kernel
theorem dL_isTuned_12 : decode cL_isTuned 12 = .ok (.istore 4, 2) := by decide +kernel
theorem dL_isTuned_14 : decode cL_isTuned 14 = .ok (.aload_n 0, 1) := by decide +kernel
theorem dL_isTuned_15 : decode cL_isTuned 15 = .ok (.iload_n 1, 1) := by decide +kernel
theorem dL_isTuned_16 : decode cL_isTuned 16 = .ok (.iconst 4, 1) := by decide +kernel
theorem dL_isTuned_17 : decode cL_isTuned 17 = .ok (.invokevirtual 26, 3) := by decide +kernel
theorem dL_isTuned_20 : decode cL_isTuned 20 = .ok (.istore 5, 2) := by decide +kernel
theorem dL_isTuned_22 : decode cL_isTuned 22 = .ok (.aload_n 0, 1) := by decide +kernel
theorem dL_isTuned_23 : decode cL_isTuned 23 = .ok (.iload_n 1, 1) := by decide +kernel
theorem dL_isTuned_24 : decode cL_isTuned 24 = .ok (.iload_n 2, 1) := by decide +kernel
theorem dL_isTuned_25 : decode cL_isTuned 25 = .ok (.invokevirtual 137, 3) := by decide +kernel
theorem dL_isTuned_28 : decode cL_isTuned 28 = .ok (.istore 6, 2) := by decide +kernel
theorem dL_isTuned_30 : decode cL_isTuned 30 = .ok (.iload 6, 2) := by decide +kernel
theorem dL_isTuned_32 : decode cL_isTuned 32 = .ok (.iload_n 2, 1) := by decide +kernel
theorem dL_isTuned_33 : decode cL_isTuned 33 = .ok (.bipush 10, 2) := by decide +kernel
theorem dL_isTuned_35 : decode cL_isTuned 35 = .ok (.idiv, 1) := by decide +kernel
theorem dL_isTuned_36 : decode cL_isTuned 36 = .ok (.if_icmp .gt 33, 3) := by decide +kernel
theorem dL_isTuned_39 : decode cL_isTuned 39 = .ok (.aload_n 0, 1) := by decide +kernel
theorem dL_isTuned_40 : decode cL_isTuned 40 = .ok (.bipush 7, 2) := by decide +kernel
theorem dL_isTuned_42 : decode cL_isTuned 42 = .ok (.invokevirtual 65, 3) := by decide +kernel
theorem dL_isTuned_45 : decode cL_isTuned 45 = .ok (.iload 4, 2) := by decide +kernel
theorem dL_isTuned_47 : decode cL_isTuned 47 = .ok (.iconst 4, 1) := by decide +kernel
theorem dL_isTuned_48 : decode cL_isTuned 48 = .ok (.iload 6, 2) := by decide +kernel
theorem dL_isTuned_50 : decode cL_isTuned 50 = .ok (.imul, 1) := by decide +kernel
theorem dL_isTuned_51 : decode cL_isTuned 51 = .ok (.isub, 1) := by decide +kernel
theorem dL_isTuned_52 : decode cL_isTuned 52 = .ok (.if_icmp .ne 17, 3) := by decide +kernel
theorem dL_isTuned_55 : decode cL_isTuned 55 = .ok (.aload_n 0, 1) := by decide +kernel
theorem dL_isTuned_56 : decode cL_isTuned 56 = .ok (.iload_n 1, 1) := by decide +kernel
theorem dL_isTuned_57 : decode cL_isTuned 57 = .ok (.iconst 4, 1) := by decide +kernel
theorem dL_isTuned_58 : decode cL_isTuned 58 = .ok (.invokevirtual 26, 3) := by decide +kernel
theorem dL_isTuned_61 : decode cL_isTuned 61 = .ok (.iload 5, 2) := by decide +kernel
theorem dL_isTuned_63 : decode cL_isTuned 63 = .ok (.iload 6, 2) := by decide +kernel
theorem dL_isTuned_65 : decode cL_isTuned 65 = .ok (.iadd, 1) := by decide +kernel
theorem dL_isTuned_66 : decode cL_isTuned 66 = .ok (.if_icmp .eq 5, 3) := by decide +kernel
theorem dL_isTuned_69 : decode cL_isTuned 69 = .ok (.iconst 0, 1) := by decide +kernel
theorem dL_isTuned_70 : decode cL_isTuned 70 = .ok (.ireturn, 1) := by decide +kernel
theorem dL_isTuned_71 : decode cL_isTuned 71 = .ok (.iload_n 3, 1) := by decide +kernel
theorem dL_isTuned_72 : decode cL_isTuned 72 = .ok (.ifCond .lt 11, 3) := by decide +kernel
theorem dL_isTuned_75 : decode cL_isTuned 75 = .ok (.iload_n 3, 1) := by decide +kernel
theorem dL_isTuned_76 : decode cL_isTuned 76 = .ok (.iload_n 2, 1) := by decide +kernel
theorem dL_isTuned_77 : decode cL_isTuned 77 = .ok (.bipush 10, 2) := by decide +kernel
theorem dL_isTuned_79 : decode cL_isTuned 79 = .ok (.idiv, 1) := by decide +kernel
theorem dL_isTuned_80 : decode cL_isTuned 80 = .ok (.if_icmp .le 39, 3) := by decide +kernel
theorem dL_isTuned_83 : decode cL_isTuned 83 = .ok (.aload_n 0, 1) := by decide +kernel
theorem dL_isTuned_84 : decode cL_isTuned 84 = .ok (.iload_n 1, 1) := by decide +kernel
theorem dL_isTuned_85 : decode cL_isTuned 85 = .ok (.iconst 2, 1) := by decide +kernel
theorem dL_isTuned_86 : decode cL_isTuned 86 = .ok (.invokevirtual 26, 3) := by decide +kernel
theorem dL_isTuned_89 : decode cL_isTuned 89 = .ok (.iconst 1, 1) := by decide +kernel
theorem dL_isTuned_90 : decode cL_isTuned 90 = .ok (.if_icmp .eq 23, 3) := by decide +kernel
theorem dL_isTuned_93 : decode cL_isTuned 93 = .ok (.aload_n 0, 1) := by decide +kernel
theorem dL_isTuned_94 : decode cL_isTuned 94 = .ok (.iload_n 1, 1) := by decide +kernel
theorem dL_isTuned_95 : decode cL_isTuned 95 = .ok (.iconst 3, 1) := by decide +kernel
theorem dL_isTuned_96 : decode cL_isTuned 96 = .ok (.invokevirtual 26, 3) := by decide +kernel
theorem dL_isTuned_99 : decode cL_isTuned 99 = .ok (.bipush 8, 2) := by decide +kernel
theorem dL_isTuned_101 : decode cL_isTuned 101 = .ok (.if_icmp .ge 16, 3) := by decide +kernel
theorem dL_isTuned_104 : decode cL_isTuned 104 = .ok (.iload 6, 2) := by decide +kernel
theorem dL_isTuned_106 : decode cL_isTuned 106 = .ok (.iload_n 2, 1) := by decide +kernel
theorem dL_isTuned_107 : decode cL_isTuned 107 = .ok (.bipush 10, 2) := by decide +kernel
theorem dL_isTuned_109 : decode cL_isTuned 109 = .ok (.idiv, 1) := by decide +kernel
theorem dL_isTuned_110 : decode cL_isTuned 110 = .ok (.if_icmp .ne 7, 3) := by decide +kernel
theorem dL_isTuned_113 : decode cL_isTuned 113 = .ok (.iconst 1, 1) := by decide +kernel
theorem dL_isTuned_114 : decode cL_isTuned 114 = .ok (.goto 4, 3) := by decide +kernel
theorem dL_isTuned_117 : decode cL_isTuned 117 = .ok (.iconst 0, 1) := by decide +kernel
theorem dL_isTuned_118 : decode cL_isTuned 118 = .ok (.ireturn, 1) := by decide +kernel
theorem dL_isTuned_119 : decode cL_isTuned 119 = .ok (.iload 6, 2) := by decide +kernel
theorem dL_isTuned_121 : decode cL_isTuned 121 = .ok (.iload_n 3, 1) := by decide +kernel
theorem dL_isTuned_122 : decode cL_isTuned 122 = .ok (.if_icmp .ne 26, 3) := by decide +kernel
theorem dL_isTuned_125 : decode cL_isTuned 125 = .ok (.aload_n 0, 1) := by decide +kernel
theorem dL_isTuned_126 : decode cL_isTuned 126 = .ok (.iload_n 1, 1) := by decide +kernel
theorem dL_isTuned_127 : decode cL_isTuned 127 = .ok (.iconst 3, 1) := by decide +kernel
theorem dL_isTuned_128 : decode cL_isTuned 128 = .ok (.invokevirtual 26, 3) := by decide +kernel
theorem dL_isTuned_131 : decode cL_isTuned 131 = .ok (.bipush 8, 2) := by decide +kernel
theorem dL_isTuned_133 : decode cL_isTuned 133 = .ok (.if_icmp .ne 15, 3) := by decide +kernel
theorem dL_isTuned_136 : decode cL_isTuned 136 = .ok (.aload_n 0, 1) := by decide +kernel
theorem dL_isTuned_137 : decode cL_isTuned 137 = .ok (.iload_n 1, 1) := by decide +kernel
theorem dL_isTuned_138 : decode cL_isTuned 138 = .ok (.invokevirtual 134, 3) := by decide +kernel
theorem dL_isTuned_141 : decode cL_isTuned 141 = .ok (.ifCond .ne 7, 3) := by decide +kernel
theorem dL_isTuned_144 : decode cL_isTuned 144 = .ok (.iconst 1, 1) := by decide +kernel
theorem dL_isTuned_145 : decode cL_isTuned 145 = .ok (.goto 4, 3) := by decide +kernel
theorem dL_isTuned_148 : decode cL_isTuned 148 = .ok (.iconst 0, 1) := by decide +kernel
theorem dL_isTuned_149 : decode cL_isTuned 149 = .ok (.ireturn, 1) := by decide +kernel
theorem dL_isTaught_0 : decode cL_isTaught 0 = .ok (.aload_n 0, 1) := by decide +kernel
theorem dL_isTaught_1 : decode cL_isTaught 1 = .ok (.iload_n 2, 1) := by decide +kernel
theorem dL_isTaught_2 : decode cL_isTaught 2 = .ok (.iconst 0, 1) := by decide +kernel
theorem dL_isTaught_3 : decode cL_isTaught 3 = .ok (.invokevirtual 59, 3) := by decide +kernel
theorem dL_isTaught_6 : decode cL_isTaught 6 = .ok (.aload_n 0, 1) := by decide +kernel
theorem dL_isTaught_7 : decode cL_isTaught 7 = .ok (.iload_n 1, 1) := by decide +kernel
theorem dL_isTaught_8 : decode cL_isTaught 8 = .ok (.iconst 0, 1) := by decide +kernel
theorem dL_isTaught_9 : decode cL_isTaught 9 = .ok (.invokevirtual 77, 3) := by decide +kernel
theorem dL_isTaught_12 : decode cL_isTaught 12 = .ok (.if_icmp .eq 18, 3) := by decide +kernel
theorem dL_isTaught_15 : decode cL_isTaught 15 = .ok (.aload_n 0, 1) := by decide +kernel
theorem dL_isTaught_16 : decode cL_isTaught 16 = .ok (.iload_n 1, 1) := by decide +kernel
theorem dL_isTaught_17 : decode cL_isTaught 17 = .ok (.iload_n 2, 1) := by decide +kernel
theorem dL_isTaught_18 : decode cL_isTaught 18 = .ok (.invokevirtual 56, 3) := by decide +kernel
theorem dL_isTaught_21 : decode cL_isTaught 21 = .ok (.ifCond .ne 7, 3) := by decide +kernel
theorem dL_isTaught_24 : decode cL_isTaught 24 = .ok (.iconst 1, 1) := by decide +kernel
theorem dL_isTaught_25 : decode cL_isTaught 25 = .ok (.goto 4, 3) := by decide +kernel
theorem dL_isTaught_28 : decode cL_isTaught 28 = .ok (.iconst 0, 1) := by decide +kernel
theorem dL_isTaught_29 : decode cL_isTaught 29 = .ok (.ireturn, 1) := by decide +kernel
theorem dL_isTaught_30 : decode cL_isTaught 30 = .ok (.aload_n 0, 1) := by decide +kernel
theorem dL_isTaught_31 : decode cL_isTaught 31 = .ok (.iload_n 1, 1) := by decide +kernel
theorem dL_isTaught_32 : decode cL_isTaught 32 = .ok (.iload_n 2, 1) := by decide +kernel
theorem dL_isTaught_33 : decode cL_isTaught 33 = .ok (.invokevirtual 56, 3) := by decide +kernel
theorem dL_isTaught_36 : decode cL_isTaught 36 = .ok (.istore 4, 2) := by decide +kernel
theorem dL_isTaught_38 : decode cL_isTaught 38 = .ok (.aload_n 0, 1) := by decide +kernel
theorem dL_isTaught_39 : decode cL_isTaught 39 = .ok (.iload_n 1, 1) := by decide +kernel
theorem dL_isTaught_40 : decode cL_isTaught 40 = .ok (.bipush 6, 2) := by decide +kernel
theorem dL_isTaught_42 : decode cL_isTaught 42 = .ok (.invokevirtual 77, 3) := by decide +kernel
theorem dL_isTaught_45 : decode cL_isTaught 45 = .ok (.istore 5, 2) := by decide +kernel
theorem dL_isTaught_47 : decode cL_isTaught 47 = .ok (.aload_n 0, 1) := by decide +kernel
theorem dL_isTaught_48 : decode cL_isTaught 48 = .ok (.iload_n 1, 1) := by decide +kernel
theorem dL_isTaught_49 : decode cL_isTaught 49 = .ok (.iload_n 2, 1) := by decide +kernel
theorem dL_isTaught_50 : decode cL_isTaught 50 = .ok (.iload_n 3, 1) := by decide +kernel
theorem dL_isTaught_51 : decode cL_isTaught 51 = .ok (.invokevirtual 140, 3) := by decide +kernel
theorem dL_isTaught_54 : decode cL_isTaught 54 = .ok (.istore 6, 2) := by decide +kernel
theorem dL_isTaught_56 : decode cL_isTaught 56 = .ok (.iload 6, 2) := by decide +kernel
theorem dL_isTaught_58 : decode cL_isTaught 58 = .ok (.iload 4, 2) := by decide +kernel
theorem dL_isTaught_60 : decode cL_isTaught 60 = .ok (.if_icmp .lt 71, 3) := by decide +kernel
theorem dL_isTaught_63 : decode cL_isTaught 63 = .ok (.iload 6, 2) := by decide +kernel
theorem dL_isTaught_65 : decode cL_isTaught 65 = .ok (.bipush 100, 2) := by decide +kernel
theorem dL_isTaught_67 : decode cL_isTaught 67 = .ok (.if_icmp .gt 64, 3) := by decide +kernel
theorem dL_isTaught_70 : decode cL_isTaught 70 = .ok (.iload 6, 2) := by decide +kernel
theorem dL_isTaught_72 : decode cL_isTaught 72 = .ok (.iload 4, 2) := by decide +kernel
theorem dL_isTaught_74 : decode cL_isTaught 74 = .ok (.isub, 1) := by decide +kernel
theorem dL_isTaught_75 : decode cL_isTaught 75 = .ok (.iload_n 3, 1) := by decide +kernel
theorem dL_isTaught_76 : decode cL_isTaught 76 = .ok (.aload_n 0, 1) := by decide +kernel
theorem dL_isTaught_77 : decode cL_isTaught 77 = .ok (.iload_n 1, 1) := by decide +kernel
theorem dL_isTaught_78 : decode cL_isTaught 78 = .ok (.iconst 1, 1) := by decide +kernel
theorem dL_isTaught_79 : decode cL_isTaught 79 = .ok (.invokevirtual 77, 3) := by decide +kernel
theorem dL_isTaught_82 : decode cL_isTaught 82 = .ok (.imul, 1) := by decide +kernel
theorem dL_isTaught_83 : decode cL_isTaught 83 = .ok (.aload_n 0, 1) := by decide +kernel
theorem dL_isTaught_84 : decode cL_isTaught 84 = .ok (.iload_n 2, 1) := by decide +kernel
theorem dL_isTaught_85 : decode cL_isTaught 85 = .ok (.iconst 1, 1) := by decide +kernel
theorem dL_isTaught_86 : decode cL_isTaught 86 = .ok (.invokevirtual 59, 3) := by decide +kernel
theorem dL_isTaught_89 : decode cL_isTaught 89 = .ok (.idiv, 1) := by decide +kernel
theorem dL_isTaught_90 : decode cL_isTaught 90 = .ok (.if_icmp .gt 41, 3) := by decide +kernel
theorem dL_isTaught_93 : decode cL_isTaught 93 = .ok (.aload_n 0, 1) := by decide +kernel
theorem dL_isTaught_94 : decode cL_isTaught 94 = .ok (.iload_n 1, 1) := by decide +kernel
theorem dL_isTaught_95 : decode cL_isTaught 95 = .ok (.iload_n 2, 1) := by decide +kernel
theorem dL_isTaught_96 : decode cL_isTaught 96 = .ok (.invokevirtual 56, 3) := by decide +kernel
theorem dL_isTaught_99 : decode cL_isTaught 99 = .ok (.iload 6, 2) := by decide +kernel
theorem dL_isTaught_101 : decode cL_isTaught 101 = .ok (.if_icmp .ne 30, 3) := by decide +kernel
theorem dL_isTaught_104 : decode cL_isTaught 104 = .ok (.aload_n 0, 1) := by decide +kernel
theorem dL_isTaught_105 : decode cL_isTaught 105 = .ok (.iload_n 1, 1) := by decide +kernel
theorem dL_isTaught_106 : decode cL_isTaught 106 = .ok (.bipush 6, 2) := by decide +kernel
theorem dL_isTaught_108 : decode cL_isTaught 108 = .ok (.invokevirtual 77, 3) := by decide +kernel
theorem dL_isTaught_111 : decode cL_isTaught 111 = .ok (.iload 5, 2) := by decide +kernel
theorem dL_isTaught_113 : decode cL_isTaught 113 = .ok (.iload_n 3, 1) := by decide +kernel
theorem dL_isTaught_114 : decode cL_isTaught 114 = .ok (.iadd, 1) := by decide +kernel
theorem dL_isTaught_115 : decode cL_isTaught 115 = .ok (.if_icmp .ne 16, 3) := by decide +kernel
theorem dL_isTaught_118 : decode cL_isTaught 118 = .ok (.aload_n 0, 1) := by decide +kernel
theorem dL_isTaught_119 : decode cL_isTaught 119 = .ok (.iload_n 1, 1) := by decide +kernel
theorem dL_isTaught_120 : decode cL_isTaught 120 = .ok (.iconst 4, 1) := by decide +kernel
theorem dL_isTaught_121 : decode cL_isTaught 121 = .ok (.invokevirtual 77, 3) := by decide +kernel
theorem dL_isTaught_124 : decode cL_isTaught 124 = .ok (.ifCond .ne 7, 3) := by decide +kernel
theorem dL_isTaught_127 : decode cL_isTaught 127 = .ok (.iconst 1, 1) := by decide +kernel
theorem dL_isTaught_128 : decode cL_isTaught 128 = .ok (.goto 4, 3) := by decide +kernel
theorem dL_isTaught_131 : decode cL_isTaught 131 = .ok (.iconst 0, 1) := by decide +kernel
theorem dL_isTaught_132 : decode cL_isTaught 132 = .ok (.ireturn, 1) := by decide +kernel
theorem dL_isTaught_133 : decode cL_isTaught 133 = .ok (.astore 6, 2) := by decide +kernel
theorem dL_isTaught_135 : decode cL_isTaught 135 = .ok (.aload_n 0, 1) := by decide +kernel
theorem dL_isTaught_136 : decode cL_isTaught 136 = .ok (.iload_n 1, 1) := by decide +kernel
theorem dL_isTaught_137 : decode cL_isTaught 137 = .ok (.iload_n 2, 1) := by decide +kernel
theorem dL_isTaught_138 : decode cL_isTaught 138 = .ok (.invokevirtual 56, 3) := by decide +kernel
theorem dL_isTaught_141 : decode cL_isTaught 141 = .ok (.iload 4, 2) := by decide +kernel
theorem dL_isTaught_143 : decode cL_isTaught 143 = .ok (.if_icmp .ne 19, 3) := by decide +kernel
theorem dL_isTaught_146 : decode cL_isTaught 146 = .ok (.aload_n 0, 1) := by decide +kernel
theorem dL_isTaught_147 : decode cL_isTaught 147 = .ok (.iload_n 1, 1) := by decide +kernel
theorem dL_isTaught_148 : decode cL_isTaught 148 = .ok (.bipush 6, 2) := by decide +kernel
theorem dL_isTaught_150 : decode cL_isTaught 150 = .ok (.invokevirtual 77, 3) := by decide +kernel
theorem dL_isTaught_153 : decode cL_isTaught 153 = .ok (.iload 5, 2) := by decide +kernel
theorem dL_isTaught_155 : decode cL_isTaught 155 = .ok (.if_icmp .ne 7, 3) := by decide +kernel
theorem dL_isTaught_158 : decode cL_isTaught 158 = .ok (.iconst 1, 1) := by decide +kernel
theorem dL_isTaught_159 : decode cL_isTaught 159 = .ok (.goto 4, 3) := by decide +kernel
theorem dL_isTaught_162 : decode cL_isTaught 162 = .ok (.iconst 0, 1) := by decide +kernel
theorem dL_isTaught_163 : decode cL_isTaught 163 = .ok (.ireturn, 1) := by decide +kernel
theorem dL_isPlayed_0 : decode cL_isPlayed 0 = .ok (.aload_n 0, 1) := by decide +kernel
theorem dL_isPlayed_1 : decode cL_isPlayed 1 = .ok (.bipush 8, 2) := by decide +kernel
theorem dL_isPlayed_3 : decode cL_isPlayed 3 = .ok (.invokevirtual 65, 3) := by decide +kernel
theorem dL_isPlayed_6 : decode cL_isPlayed 6 = .ok (.istore_n 1, 1) := by decide +kernel
theorem dL_isPlayed_7 : decode cL_isPlayed 7 = .ok (.aload_n 0, 1) := by decide +kernel
theorem dL_isPlayed_8 : decode cL_isPlayed 8 = .ok (.bipush 11, 2) := by decide +kernel
theorem dL_isPlayed_10 : decode cL_isPlayed 10 = .ok (.invokevirtual 65, 3) := by decide +kernel
theorem dL_isPlayed_13 : decode cL_isPlayed 13 = .ok (.istore_n 2, 1) := by decide +kernel
theorem dL_isPlayed_14 : decode cL_isPlayed 14 = .ok (.aload_n 0, 1) := by decide +kernel
theorem dL_isPlayed_15 : decode cL_isPlayed 15 = .ok (.bipush 7, 2) := by decide +kernel
theorem dL_isPlayed_17 : decode cL_isPlayed 17 = .ok (.invokevirtual 65, 3) := by decide +kernel
theorem dL_isPlayed_20 : decode cL_isPlayed 20 = .ok (.istore_n 3, 1) := by decide +kernel
theorem dL_isPlayed_21 : decode cL_isPlayed 21 = .ok (.aload_n 0, 1) := by decide +kernel
theorem dL_isPlayed_22 : decode cL_isPlayed 22 = .ok (.invokevirtual 145, 3) := by decide +kernel
theorem dL_isPlayed_25 : decode cL_isPlayed 25 = .ok (.istore 4, 2) := by decide +kernel
theorem dL_isPlayed_27 : decode cL_isPlayed 27 = .ok (.bipush 50, 2) := by decide +kernel
theorem dL_isPlayed_29 : decode cL_isPlayed 29 = .ok (.iload_n 1, 1) := by decide +kernel
theorem dL_isPlayed_30 : decode cL_isPlayed 30 = .ok (.iconst 2, 1) := by decide +kernel
theorem dL_isPlayed_31 : decode cL_isPlayed 31 = .ok (.if_icmp .ne 21, 3) := by decide +kernel
theorem dL_isPlayed_34 : decode cL_isPlayed 34 = .ok (.iload 4, 2) := by decide +kernel
theorem dL_isPlayed_36 : decode cL_isPlayed 36 = .ok (.iconst 4, 1) := by decide +kernel
theorem dL_isPlayed_37 : decode cL_isPlayed 37 = .ok (.if_icmp .ge 15, 3) := by decide +kernel
theorem dL_isPlayed_40 : decode cL_isPlayed 40 = .ok (.sipush 400, 3) := by decide +kernel
theorem dL_isPlayed_43 : decode cL_isPlayed 43 = .ok (.bipush 100, 2) := by decide +kernel
theorem dL_isPlayed_45 : decode cL_isPlayed 45 = .ok (.iload 4, 2) := by decide +kernel
theorem dL_isPlayed_47 : decode cL_isPlayed 47 = .ok (.imul, 1) := by decide +kernel
theorem dL_isPlayed_48 : decode cL_isPlayed 48 = .ok (.isub, 1) := by decide +kernel
theorem dL_isPlayed_49 : decode cL_isPlayed 49 = .ok (.goto 4, 3) := by decide +kernel
theorem dL_isPlayed_52 : decode cL_isPlayed 52 = .ok (.iconst 0, 1) := by decide +kernel
theorem dL_isPlayed_53 : decode cL_isPlayed 53 = .ok (.iadd, 1) := by decide +kernel
theorem dL_isPlayed_54 : decode cL_isPlayed 54 = .ok (.istore 5, 2) := by decide +kernel
theorem dL_isPlayed_56 : decode cL_isPlayed 56 = .ok (.iload 4, 2) := by decide +kernel
theorem dL_isPlayed_58 : decode cL_isPlayed 58 = .ok (.iconst 1, 1) := by decide +kernel
theorem dL_isPlayed_59 : decode cL_isPlayed 59 = .ok (.if_icmp .lt 74, 3) := by decide +kernel
theorem dL_isPlayed_62 : decode cL_isPlayed 62 = .ok (.iload 4, 2) := by decide +kernel
theorem dL_isPlayed_64 : decode cL_isPlayed 64 = .ok (.iconst 4, 1) := by decide +kernel
theorem dL_isPlayed_65 : decode cL_isPlayed 65 = .ok (.if_icmp .gt 68, 3) := by decide +kernel
theorem dL_isPlayed_68 : decode cL_isPlayed 68 = .ok (.aload_n 0, 1) := by decide +kernel
theorem dL_isPlayed_69 : decode cL_isPlayed 69 = .ok (.iload_n 1, 1) := by decide +kernel
theorem dL_isPlayed_70 : decode cL_isPlayed 70 = .ok (.iconst 0, 1) := by decide +kernel
theorem dL_isPlayed_71 : decode cL_isPlayed 71 = .ok (.invokevirtual 148, 3) := by decide +kernel
theorem dL_isPlayed_74 : decode cL_isPlayed 74 = .ok (.iload_n 2, 1) := by decide +kernel
theorem dL_isPlayed_75 : decode cL_isPlayed 75 = .ok (.if_icmp .ne 58, 3) := by decide +kernel
theorem dL_isPlayed_78 : decode cL_isPlayed 78 = .ok (.aload_n 0, 1) := by decide +kernel
theorem dL_isPlayed_79 : decode cL_isPlayed 79 = .ok (.iload_n 1, 1) := by decide +kernel
theorem dL_isPlayed_80 : decode cL_isPlayed 80 = .ok (.iconst 1, 1) := by decide +kernel
theorem dL_isPlayed_81 : decode cL_isPlayed 81 = .ok (.invokevirtual 148, 3) := by decide +kernel
theorem dL_isPlayed_84 : decode cL_isPlayed 84 = .ok (.iload 4, 2) := by decide +kernel
theorem dL_isPlayed_86 : decode cL_isPlayed 86 = .ok (.if_icmp .ne 47, 3) := by decide +kernel
theorem dL_isPlayed_89 : decode cL_isPlayed 89 = .ok (.aload_n 0, 1) := by decide +kernel
theorem dL_isPlayed_90 : decode cL_isPlayed 90 = .ok (.bipush 8, 2) := by decide +kernel
theorem dL_isPlayed_92 : decode cL_isPlayed 92 = .ok (.invokevirtual 65, 3) := by decide +kernel
theorem dL_isPlayed_95 : decode cL_isPlayed 95 = .ok (.iload_n 1, 1) := by decide +kernel
theorem dL_isPlayed_96 : decode cL_isPlayed 96 = .ok (.iconst 1, 1) := by decide +kernel
theorem dL_isPlayed_97 : decode cL_isPlayed 97 = .ok (.iadd, 1) := by decide +kernel
theorem dL_isPlayed_98 : decode cL_isPlayed 98 = .ok (.if_icmp .ne 35, 3) := by decide +kernel
theorem dL_isPlayed_101 : decode cL_isPlayed 101 = .ok (.aload_n 0, 1) := by decide +kernel
theorem dL_isPlayed_102 : decode cL_isPlayed 102 = .ok (.bipush 7, 2) := by decide +kernel
theorem dL_isPlayed_104 : decode cL_isPlayed 104 = .ok (.invokevirtual 65, 3) := by decide +kernel
theorem dL_isPlayed_107 : decode cL_isPlayed 107 = .ok (.iload_n 3, 1) := by decide +kernel
theorem dL_isPlayed_108 : decode cL_isPlayed 108 = .ok (.iload 5, 2) := by decide +kernel
theorem dL_isPlayed_110 : decode cL_isPlayed 110 = .ok (.iadd, 1) := by decide +kernel
theorem dL_isPlayed_111 : decode cL_isPlayed 111 = .ok (.if_icmp .ne 22, 3) := by decide +kernel
theorem dL_isPlayed_114 : decode cL_isPlayed 114 = .ok (.iload_n 1, 1) := by decide +kernel
theorem dL_isPlayed_115 : decode cL_isPlayed 115 = .ok (.iconst 2, 1) := by decide +kernel
theorem dL_isPlayed_116 : decode cL_isPlayed 116 = .ok (.if_icmp .lt 13, 3) := by decide +kernel
theorem dL_isPlayed_119 : decode cL_isPlayed 119 = .ok (.aload_n 0, 1) := by decide +kernel
theorem dL_isPlayed_120 : decode cL_isPlayed 120 = .ok (.bipush 9, 2) := by decide +kernel
theorem dL_isPlayed_122 : decode cL_isPlayed 122 = .ok (.invokevirtual 65, 3) := by decide +kernel
theorem dL_isPlayed_125 : decode cL_isPlayed 125 = .ok (.iconst 1, 1) := by decide +kernel
theorem dL_isPlayed_126 : decode cL_isPlayed 126 = .ok (.if_icmp .ne 7, 3) := by decide +kernel
theorem dL_isPlayed_129 : decode cL_isPlayed 129 = .ok (.iconst 1, 1) := by decide +kernel
theorem dL_isPlayed_130 : decode cL_isPlayed 130 = .ok (.goto 4, 3) := by decide +kernel
theorem dL_isPlayed_133 : decode cL_isPlayed 133 = .ok (.iconst 0, 1) := by decide +kernel
theorem dL_isPlayed_134 : decode cL_isPlayed 134 = .ok (.ireturn, 1) := by decide +kernel
theorem dL_isPlayed_135 : decode cL_isPlayed 135 = .ok (.astore 4, 2) := by decide +kernel
theorem dL_isPlayed_137 : decode cL_isPlayed 137 = .ok (.iload_n 1, 1) := by decide +kernel
theorem dL_isPlayed_138 : decode cL_isPlayed 138 = .ok (.ifCond .le 27, 3) := by decide +kernel
theorem dL_isPlayed_141 : decode cL_isPlayed 141 = .ok (.aload_n 0, 1) := by decide +kernel
theorem dL_isPlayed_142 : decode cL_isPlayed 142 = .ok (.bipush 8, 2) := by decide +kernel
theorem dL_isPlayed_144 : decode cL_isPlayed 144 = .ok (.invokevirtual 65, 3) := by decide +kernel
theorem dL_isPlayed_147 : decode cL_isPlayed 147 = .ok (.iload_n 1, 1) := by decide +kernel
theorem dL_isPlayed_148 : decode cL_isPlayed 148 = .ok (.if_icmp .ne 17, 3) := by decide +kernel
theorem dL_isPlayed_151 : decode cL_isPlayed 151 = .ok (.aload_n 0, 1) := by decide +kernel
theorem dL_isPlayed_152 : decode cL_isPlayed 152 = .ok (.bipush 7, 2) := by decide +kernel
theorem dL_isPlayed_154 : decode cL_isPlayed 154 = .ok (.invokevirtual 65, 3) := by decide +kernel
theorem dL_isPlayed_157 : decode cL_isPlayed 157 = .ok (.iload_n 3, 1) := by decide +kernel
theorem dL_isPlayed_158 : decode cL_isPlayed 158 = .ok (.if_icmp .ne 7, 3) := by decide +kernel
theorem dL_isPlayed_161 : decode cL_isPlayed 161 = .ok (.iconst 1, 1) := by decide +kernel
theorem dL_isPlayed_162 : decode cL_isPlayed 162 = .ok (.goto 4, 3) := by decide +kernel
theorem dL_isPlayed_165 : decode cL_isPlayed 165 = .ok (.iconst 0, 1) := by decide +kernel
theorem dL_isPlayed_166 : decode cL_isPlayed 166 = .ok (.ireturn, 1) := by decide +kernel
theorem dL_isPassed_0 : decode cL_isPassed 0 = .ok (.bipush 6, 2) := by decide +kernel
theorem dL_isPassed_2 : decode cL_isPassed 2 = .ok (.bipush 6, 2) := by decide +kernel
theorem dL_isPassed_4 : decode cL_isPassed 4 = .ok (.multianewarray 151 2, 4) := by decide +kernel
theorem dL_isPassed_8 : decode cL_isPassed 8 = .ok (.astore_n 3, 1) := by decide +kernel
theorem dL_isPassed_9 : decode cL_isPassed 9 = .ok (.iconst 0, 1) := by decide +kernel
theorem dL_isPassed_10 : decode cL_isPassed 10 = .ok (.istore 4, 2) := by decide +kernel
theorem dL_isPassed_12 : decode cL_isPassed 12 = .ok (.iload 4, 2) := by decide +kernel
theorem dL_isPassed_14 : decode cL_isPassed 14 = .ok (.bipush 6, 2) := by decide +kernel
theorem dL_isPassed_16 : decode cL_isPassed 16 = .ok (.if_icmp .ge 40, 3) := by decide +kernel
theorem dL_isPassed_19 : decode cL_isPassed 19 = .ok (.iconst 0, 1) := by decide +kernel
theorem dL_isPassed_20 : decode cL_isPassed 20 = .ok (.istore 5, 2) := by decide +kernel
theorem dL_isPassed_22 : decode cL_isPassed 22 = .ok (.iload 5, 2) := by decide +kernel
theorem dL_isPassed_24 : decode cL_isPassed 24 = .ok (.bipush 6, 2) := by decide +kernel
theorem dL_isPassed_26 : decode cL_isPassed 26 = .ok (.if_icmp .ge 24, 3) := by decide +kernel
theorem dL_isPassed_29 : decode cL_isPassed 29 = .ok (.aload_n 3, 1) := by decide +kernel
theorem dL_isPassed_30 : decode cL_isPassed 30 = .ok (.iload 4, 2) := by decide +kernel
theorem dL_isPassed_32 : decode cL_isPassed 32 = .ok (.aaload, 1) := by decide +kernel
theorem dL_isPassed_33 : decode cL_isPassed 33 = .ok (.iload 5, 2) := by decide +kernel
theorem dL_isPassed_35 : decode cL_isPassed 35 = .ok (.aload_n 0, 1) := by decide +kernel
theorem dL_isPassed_36 : decode cL_isPassed 36 = .ok (.iload 4, 2) := by decide +kernel
theorem dL_isPassed_38 : decode cL_isPassed 38 = .ok (.iload 5, 2) := by decide +kernel
theorem dL_isPassed_40 : decode cL_isPassed 40 = .ok (.invokevirtual 56, 3) := by decide +kernel
theorem dL_isPassed_43 : decode cL_isPassed 43 = .ok (.iastore, 1) := by decide +kernel
theorem dL_isPassed_44 : decode cL_isPassed 44 = .ok (.iinc 5 1, 3) := by decide +kernel
theorem dL_isPassed_47 : decode cL_isPassed 47 = .ok (.goto (-25), 3) := by decide +kernel
theorem dL_isPassed_50 : decode cL_isPassed 50 = .ok (.iinc 4 1, 3) := by decide +kernel
theorem dL_isPassed_53 : decode cL_isPassed 53 = .ok (.goto (-41), 3) := by decide +kernel
theorem dL_isPassed_56 : decode cL_isPassed 56 = .ok (.iconst 4, 1) := by decide +kernel
theorem dL_isPassed_57 : decode cL_isPassed 57 = .ok (.newarray .int, 2) := by decide +kernel
theorem dL_isPassed_59 : decode cL_isPassed 59 = .ok (.astore 4, 2) := by decide +kernel
theorem dL_isPassed_61 : decode cL_isPassed 61 = .ok (.iconst 4, 1) := by decide +kernel
theorem dL_isPassed_62 : decode cL_isPassed 62 = .ok (.newarray .int, 2) := by decide +kernel
theorem dL_isPassed_64 : decode cL_isPassed 64 = .ok (.astore 5, 2) := by decide +kernel
theorem dL_isPassed_66 : decode cL_isPassed 66 = .ok (.iconst 0, 1) := by decide +kernel
theorem dL_isPassed_67 : decode cL_isPassed 67 = .ok (.istore 6, 2) := by decide +kernel
theorem dL_isPassed_69 : decode cL_isPassed 69 = .ok (.iload 6, 2) := by decide +kernel
theorem dL_isPassed_71 : decode cL_isPassed 71 = .ok (.iconst 4, 1) := by decide +kernel
theorem dL_isPassed_72 : decode cL_isPassed 72 = .ok (.if_icmp .ge 33, 3) := by decide +kernel
theorem dL_isPassed_75 : decode cL_isPassed 75 = .ok (.aload 4, 2) := by decide +kernel
theorem dL_isPassed_77 : decode cL_isPassed 77 = .ok (.iload 6, 2) := by decide +kernel
theorem dL_isPassed_79 : decode cL_isPassed 79 = .ok (.aload_n 0, 1) := by decide +kernel
theorem dL_isPassed_80 : decode cL_isPassed 80 = .ok (.iload 6, 2) := by decide +kernel
theorem dL_isPassed_82 : decode cL_isPassed 82 = .ok (.iconst 2, 1) := by decide +kernel
theorem dL_isPassed_83 : decode cL_isPassed 83 = .ok (.invokevirtual 117, 3) := by decide +kernel
theorem dL_isPassed_86 : decode cL_isPassed 86 = .ok (.iastore, 1) := by decide +kernel
theorem dL_isPassed_87 : decode cL_isPassed 87 = .ok (.aload 5, 2) := by decide +kernel
theorem dL_isPassed_89 : decode cL_isPassed 89 = .ok (.iload 6, 2) := by decide +kernel
theorem dL_isPassed_91 : decode cL_isPassed 91 = .ok (.aload_n 0, 1) := by decide +kernel
theorem dL_isPassed_92 : decode cL_isPassed 92 = .ok (.iload 6, 2) := by decide +kernel
theorem dL_isPassed_94 : decode cL_isPassed 94 = .ok (.iconst 1, 1) := by decide +kernel
theorem dL_isPassed_95 : decode cL_isPassed 95 = .ok (.invokevirtual 26, 3) := by decide +kernel
theorem dL_isPassed_98 : decode cL_isPassed 98 = .ok (.iastore, 1) := by decide +kernel
theorem dL_isPassed_99 : decode cL_isPassed 99 = .ok (.iinc 6 1, 3) := by decide +kernel
theorem dL_isPassed_102 : decode cL_isPassed 102 = .ok (.goto (-33), 3) := by decide +kernel
theorem dL_isPassed_105 : decode cL_isPassed 105 = .ok (.aload_n 0, 1) := by decide +kernel
theorem dL_isPassed_106 : decode cL_isPassed 106 = .ok (.iconst 1, 1) := by decide +kernel
theorem dL_isPassed_107 : decode cL_isPassed 107 = .ok (.invokevirtual 101, 3) := by decide +kernel
theorem dL_isPassed_110 : decode cL_isPassed 110 = .ok (.istore 6, 2) := by decide +kernel
theorem dL_isPassed_112 : decode cL_isPassed 112 = .ok (.aload_n 0, 1) := by decide +kernel
theorem dL_isPassed_113 : decode cL_isPassed 113 = .ok (.iconst 0, 1) := by decide +kernel
theorem dL_isPassed_114 : decode cL_isPassed 114 = .ok (.invokevirtual 65, 3) := by decide +kernel
theorem dL_isPassed_117 : decode cL_isPassed 117 = .ok (.istore 7, 2) := by decide +kernel
theorem dL_isPassed_119 : decode cL_isPassed 119 = .ok (.aload_n 0, 1) := by decide +kernel
theorem dL_isPassed_120 : decode cL_isPassed 120 = .ok (.iconst 1, 1) := by decide +kernel
theorem dL_isPassed_121 : decode cL_isPassed 121 = .ok (.iload_n 1, 1) := by decide +kernel
theorem dL_isPassed_122 : decode cL_isPassed 122 = .ok (.iload_n 2, 1) := by decide +kernel
theorem dL_isPassed_123 : decode cL_isPassed 123 = .ok (.invokevirtual 153, 3) := by decide +kernel
theorem dL_isPassed_126 : decode cL_isPassed 126 = .ok (.iload 7, 2) := by decide +kernel
theorem dL_isPassed_128 : decode cL_isPassed 128 = .ok (.iconst 1, 1) := by decide +kernel
theorem dL_isPassed_129 : decode cL_isPassed 129 = .ok (.iadd, 1) := by decide +kernel
theorem dL_isPassed_130 : decode cL_isPassed 130 = .ok (.if_icmp .ne 34, 3) := by decide +kernel
theorem dL_isPassed_133 : decode cL_isPassed 133 = .ok (.aload_n 0, 1) := by decide +kernel
theorem dL_isPassed_134 : decode cL_isPassed 134 = .ok (.bipush 12, 2) := by decide +kernel
theorem dL_isPassed_136 : decode cL_isPassed 136 = .ok (.invokevirtual 65, 3) := by decide +kernel
theorem dL_isPassed_139 : decode cL_isPassed 139 = .ok (.ifCond .ne 25, 3) := by decide +kernel
theorem dL_isPassed_142 : decode cL_isPassed 142 = .ok (.iload_n 1, 1) := by decide +kernel
theorem dL_isPassed_143 : decode cL_isPassed 143 = .ok (.bipush 7, 2) := by decide +kernel
theorem dL_isPassed_145 : decode cL_isPassed 145 = .ok (.if_icmp .ge 21, 3) := by decide +kernel
theorem dL_isPassed_148 : decode cL_isPassed 148 = .ok (.iload_n 2, 1) := by decide +kernel
theorem dL_isPassed_149 : decode cL_isPassed 149 = .ok (.iconst 5, 1) := by decide +kernel
theorem dL_isPassed_150 : decode cL_isPassed 150 = .ok (.if_icmp .ge 16, 3) := by decide +kernel
theorem dL_isPassed_153 : decode cL_isPassed 153 = .ok (.aload_n 0, 1) := by decide +kernel
theorem dL_isPassed_154 : decode cL_isPassed 154 = .ok (.bipush 10, 2) := by decide +kernel
theorem dL_isPassed_156 : decode cL_isPassed 156 = .ok (.invokevirtual 65, 3) := by decide +kernel
theorem dL_isPassed_159 : decode cL_isPassed 159 = .ok (.iload 6, 2) := by decide +kernel
theorem dL_isPassed_161 : decode cL_isPassed 161 = .ok (.if_icmp .eq 5, 3) := by decide +kernel
theorem dL_isPassed_164 : decode cL_isPassed 164 = .ok (.iconst 0, 1) := by decide +kernel
theorem dL_isPassed_165 : decode cL_isPassed 165 = .ok (.ireturn, 1) := by decide +kernel
theorem dL_isPassed_166 : decode cL_isPassed 166 = .ok (.iconst 0, 1) := by decide +kernel
theorem dL_isPassed_167 : decode cL_isPassed 167 = .ok (.istore 8, 2) := by decide +kernel
theorem dL_isPassed_169 : decode cL_isPassed 169 = .ok (.iload 8, 2) := by decide +kernel
theorem dL_isPassed_171 : decode cL_isPassed 171 = .ok (.iconst 4, 1) := by decide +kernel
theorem dL_isPassed_172 : decode cL_isPassed 172 = .ok (.if_icmp .ge 70, 3) := by decide +kernel
theorem dL_isPassed_175 : decode cL_isPassed 175 = .ok (.aload_n 0, 1) := by decide +kernel
theorem dL_isPassed_176 : decode cL_isPassed 176 = .ok (.iload 8, 2) := by decide +kernel
theorem dL_isPassed_178 : decode cL_isPassed 178 = .ok (.iconst 2, 1) := by decide +kernel
theorem dL_isPassed_179 : decode cL_isPassed 179 = .ok (.invokevirtual 117, 3) := by decide +kernel
theorem dL_isPassed_182 : decode cL_isPassed 182 = .ok (.bipush 99, 2) := by decide +kernel
theorem dL_isPassed_184 : decode cL_isPassed 184 = .ok (.aload 4, 2) := by decide +kernel
theorem dL_isPassed_186 : decode cL_isPassed 186 = .ok (.iload 8, 2) := by decide +kernel
theorem dL_isPassed_188 : decode cL_isPassed 188 = .ok (.iaload, 1) := by decide +kernel
theorem dL_isPassed_189 : decode cL_isPassed 189 = .ok (.iload_n 1, 1) := by decide +kernel
theorem dL_isPassed_190 : decode cL_isPassed 190 = .ok (.bipush 6, 2) := by decide +kernel
theorem dL_isPassed_192 : decode cL_isPassed 192 = .ok (.if_icmp .le 7, 3) := by decide +kernel
theorem dL_isPassed_195 : decode cL_isPassed 195 = .ok (.iconst 1, 1) := by decide +kernel
theorem dL_isPassed_196 : decode cL_isPassed 196 = .ok (.goto 4, 3) := by decide +kernel
theorem dL_isPassed_199 : decode cL_isPassed 199 = .ok (.iconst 0, 1) := by decide +kernel
theorem dL_isPassed_200 : decode cL_isPassed 200 = .ok (.iadd, 1) := by decide +kernel
theorem dL_isPassed_201 : decode cL_isPassed 201 = .ok (.invokestatic 123, 3) := by decide +kernel
theorem dL_isPassed_204 : decode cL_isPassed 204 = .ok (.if_icmp .ne 30, 3) := by decide +kernel
theorem dL_isPassed_207 : decode cL_isPassed 207 = .ok (.aload_n 0, 1) := by decide +kernel
theorem dL_isPassed_208 : decode cL_isPassed 208 = .ok (.iload 8, 2) := by decide +kernel
theorem dL_isPassed_210 : decode cL_isPassed 210 = .ok (.iconst 1, 1) := by decide +kernel
theorem dL_isPassed_211 : decode cL_isPassed 211 = .ok (.invokevirtual 26, 3) := by decide +kernel
theorem dL_isPassed_214 : decode cL_isPassed 214 = .ok (.aload 5, 2) := by decide +kernel
theorem dL_isPassed_216 : decode cL_isPassed 216 = .ok (.iload 8, 2) := by decide +kernel
theorem dL_isPassed_218 : decode cL_isPassed 218 = .ok (.iaload, 1) := by decide +kernel
theorem dL_isPassed_219 : decode cL_isPassed 219 = .ok (.iload_n 2, 1) := by decide +kernel
theorem dL_isPassed_220 : decode cL_isPassed 220 = .ok (.iconst 4, 1) := by decide +kernel
theorem dL_isPassed_221 : decode cL_isPassed 221 = .ok (.if_icmp .le 8, 3) := by decide +kernel
theorem dL_isPassed_224 : decode cL_isPassed 224 = .ok (.bipush 10, 2) := by decide +kernel
theorem dL_isPassed_226 : decode cL_isPassed 226 = .ok (.goto 4, 3) := by decide +kernel
theorem dL_isPassed_229 : decode cL_isPassed 229 = .ok (.iconst 0, 1) := by decide +kernel
theorem dL_isPassed_230 : decode cL_isPassed 230 = .ok (.iadd, 1) := by decide +kernel
theorem dL_isPassed_231 : decode cL_isPassed 231 = .ok (.if_icmp .eq 5, 3) := by decide +kernel
theorem dL_isPassed_234 : decode cL_isPassed 234 = .ok (.iconst 0, 1) := by decide +kernel
theorem dL_isPassed_235 : decode cL_isPassed 235 = .ok (.ireturn, 1) := by decide +kernel
theorem dL_isPassed_236 : decode cL_isPassed 236 = .ok (.iinc 8 1, 3) := by decide +kernel
theorem dL_isPassed_239 : decode cL_isPassed 239 = .ok (.goto (-70), 3) := by decide +kernel
theorem dL_isPassed_242 : decode cL_isPassed 242 = .ok (.iconst 0, 1) := by decide +kernel
theorem dL_isPassed_243 : decode cL_isPassed 243 = .ok (.istore 8, 2) := by decide +kernel
theorem dL_isPassed_245 : decode cL_isPassed 245 = .ok (.iload 8, 2) := by decide +kernel
theorem dL_isPassed_247 : decode cL_isPassed 247 = .ok (.bipush 6, 2) := by decide +kernel
theorem dL_isPassed_249 : decode cL_isPassed 249 = .ok (.if_icmp .ge 77, 3) := by decide +kernel
theorem dL_isPassed_252 : decode cL_isPassed 252 = .ok (.iconst 0, 1) := by decide +kernel
theorem dL_isPassed_253 : decode cL_isPassed 253 = .ok (.istore 9, 2) := by decide +kernel
theorem dL_isPassed_255 : decode cL_isPassed 255 = .ok (.iload 9, 2) := by decide +kernel
theorem dL_isPassed_257 : decode cL_isPassed 257 = .ok (.bipush 6, 2) := by decide +kernel
theorem dL_isPassed_259 : decode cL_isPassed 259 = .ok (.if_icmp .ge 61, 3) := by decide +kernel
theorem dL_isPassed_262 : decode cL_isPassed 262 = .ok (.aload_n 0, 1) := by decide +kernel
theorem dL_isPassed_263 : decode cL_isPassed 263 = .ok (.iload 8, 2) := by decide +kernel
theorem dL_isPassed_265 : decode cL_isPassed 265 = .ok (.iload 9, 2) := by decide +kernel
theorem dL_isPassed_267 : decode cL_isPassed 267 = .ok (.invokevirtual 56, 3) := by decide +kernel
theorem dL_isPassed_270 : decode cL_isPassed 270 = .ok (.istore 10, 2) := by decide +kernel
theorem dL_isPassed_272 : decode cL_isPassed 272 = .ok (.iload 10, 2) := by decide +kernel
theorem dL_isPassed_274 : decode cL_isPassed 274 = .ok (.aload_n 3, 1) := by decide +kernel
theorem dL_isPassed_275 : decode cL_isPassed 275 = .ok (.iload 8, 2) := by decide +kernel
theorem dL_isPassed_277 : decode cL_isPassed 277 = .ok (.aaload, 1) := by decide +kernel
theorem dL_isPassed_278 : decode cL_isPassed 278 = .ok (.iload 9, 2) := by decide +kernel
theorem dL_isPassed_280 : decode cL_isPassed 280 = .ok (.iaload, 1) := by decide +kernel
theorem dL_isPassed_281 : decode cL_isPassed 281 = .ok (.if_icmp .eq 33, 3) := by decide +kernel
theorem dL_isPassed_284 : decode cL_isPassed 284 = .ok (.iload 10, 2) := by decide +kernel
theorem dL_isPassed_286 : decode cL_isPassed 286 = .ok (.iconst 0, 1) := by decide +kernel
theorem dL_isPassed_287 : decode cL_isPassed 287 = .ok (.aload_n 3, 1) := by decide +kernel
theorem dL_isPassed_288 : decode cL_isPassed 288 = .ok (.iload 8, 2) := by decide +kernel
theorem dL_isPassed_290 : decode cL_isPassed 290 = .ok (.aaload, 1) := by decide +kernel
theorem dL_isPassed_291 : decode cL_isPassed 291 = .ok (.iload 9, 2) := by decide +kernel
theorem dL_isPassed_293 : decode cL_isPassed 293 = .ok (.iaload, 1) := by decide +kernel
theorem dL_isPassed_294 : decode cL_isPassed 294 = .ok (.iconst 1, 1) := by decide +kernel
theorem dL_isPassed_295 : decode cL_isPassed 295 = .ok (.isub, 1) := by decide +kernel
theorem dL_isPassed_296 : decode cL_isPassed 296 = .ok (.aload_n 0, 1) := by decide +kernel
theorem dL_isPassed_297 : decode cL_isPassed 297 = .ok (.iload 9, 2) := by decide +kernel
theorem dL_isPassed_299 : decode cL_isPassed 299 = .ok (.iconst 1, 1) := by decide +kernel
theorem dL_isPassed_300 : decode cL_isPassed 300 = .ok (.invokevirtual 59, 3) := by decide +kernel
theorem dL_isPassed_303 : decode cL_isPassed 303 = .ok (.iconst 2, 1) := by decide +kernel
theorem dL_isPassed_304 : decode cL_isPassed 304 = .ok (.idiv, 1) := by decide +kernel
theorem dL_isPassed_305 : decode cL_isPassed 305 = .ok (.isub, 1) := by decide +kernel
theorem dL_isPassed_306 : decode cL_isPassed 306 = .ok (.invokestatic 128, 3) := by decide +kernel
theorem dL_isPassed_309 : decode cL_isPassed 309 = .ok (.if_icmp .eq 5, 3) := by decide +kernel
theorem dL_isPassed_312 : decode cL_isPassed 312 = .ok (.iconst 0, 1) := by decide +kernel
theorem dL_isPassed_313 : decode cL_isPassed 313 = .ok (.ireturn, 1) := by decide +kernel
theorem dL_isPassed_314 : decode cL_isPassed 314 = .ok (.iinc 9 1, 3) := by decide +kernel
theorem dL_isPassed_317 : decode cL_isPassed 317 = .ok (.goto (-62), 3) := by decide +kernel
theorem dL_isPassed_320 : decode cL_isPassed 320 = .ok (.iinc 8 1, 3) := by decide +kernel
theorem dL_isPassed_323 : decode cL_isPassed 323 = .ok (.goto (-78), 3) := by decide +kernel
theorem dL_isPassed_326 : decode cL_isPassed 326 = .ok (.iconst 1, 1) := by decide +kernel
theorem dL_isPassed_327 : decode cL_isPassed 327 = .ok (.ireturn, 1) := by decide +kernel
theorem dL_isSound_0 : decode cL_isSound 0 = .ok (.iconst 0, 1) := by decide +kernel
theorem dL_isSound_1 : decode cL_isSound 1 = .ok (.istore_n 1, 1) := by decide +kernel
theorem dL_isSound_2 : decode cL_isSound 2 = .ok (.iconst 0, 1) := by decide +kernel
theorem dL_isSound_3 : decode cL_isSound 3 = .ok (.istore_n 2, 1) := by decide +kernel
theorem dL_isSound_4 : decode cL_isSound 4 = .ok (.iload_n 2, 1) := by decide +kernel
theorem dL_isSound_5 : decode cL_isSound 5 = .ok (.bipush 6, 2) := by decide +kernel
theorem dL_isSound_7 : decode cL_isSound 7 = .ok (.if_icmp .ge 144, 3) := by decide +kernel
theorem dL_isSound_10 : decode cL_isSound 10 = .ok (.aload_n 0, 1) := by decide +kernel
theorem dL_isSound_11 : decode cL_isSound 11 = .ok (.iload_n 2, 1) := by decide +kernel
theorem dL_isSound_12 : decode cL_isSound 12 = .ok (.iconst 3, 1) := by decide +kernel
theorem dL_isSound_13 : decode cL_isSound 13 = .ok (.invokevirtual 77, 3) := by decide +kernel
theorem dL_isSound_16 : decode cL_isSound 16 = .ok (.istore_n 3, 1) := by decide +kernel
theorem dL_isSound_17 : decode cL_isSound 17 = .ok (.aload_n 0, 1) := by decide +kernel
theorem dL_isSound_18 : decode cL_isSound 18 = .ok (.iload_n 2, 1) := by decide +kernel
theorem dL_isSound_19 : decode cL_isSound 19 = .ok (.iconst 4, 1) := by decide +kernel
theorem dL_isSound_20 : decode cL_isSound 20 = .ok (.invokevirtual 77, 3) := by decide +kernel
theorem dL_isSound_23 : decode cL_isSound 23 = .ok (.ifCond .ne 16, 3) := by decide +kernel
theorem dL_isSound_26 : decode cL_isSound 26 = .ok (.aload_n 0, 1) := by decide +kernel
theorem dL_isSound_27 : decode cL_isSound 27 = .ok (.iload_n 3, 1) := by decide +kernel
theorem dL_isSound_28 : decode cL_isSound 28 = .ok (.iconst 2, 1) := by decide +kernel
theorem dL_isSound_29 : decode cL_isSound 29 = .ok (.invokevirtual 26, 3) := by decide +kernel
theorem dL_isSound_32 : decode cL_isSound 32 = .ok (.ifCond .ne 7, 3) := by decide +kernel
theorem dL_isSound_35 : decode cL_isSound 35 = .ok (.iconst 1, 1) := by decide +kernel
theorem dL_isSound_36 : decode cL_isSound 36 = .ok (.goto 4, 3) := by decide +kernel
theorem dL_isSound_39 : decode cL_isSound 39 = .ok (.iconst 0, 1) := by decide +kernel
theorem dL_isSound_40 : decode cL_isSound 40 = .ok (.istore 4, 2) := by decide +kernel
theorem dL_isSound_42 : decode cL_isSound 42 = .ok (.aload_n 0, 1) := by decide +kernel
theorem dL_isSound_43 : decode cL_isSound 43 = .ok (.iload_n 2, 1) := by decide +kernel
theorem dL_isSound_44 : decode cL_isSound 44 = .ok (.iconst 5, 1) := by decide +kernel
theorem dL_isSound_45 : decode cL_isSound 45 = .ok (.invokevirtual 77, 3) := by decide +kernel
theorem dL_isSound_48 : decode cL_isSound 48 = .ok (.iconst 1, 1) := by decide +kernel
theorem dL_isSound_49 : decode cL_isSound 49 = .ok (.if_icmp .ne 7, 3) := by decide +kernel
theorem dL_isSound_52 : decode cL_isSound 52 = .ok (.iconst 1, 1) := by decide +kernel
theorem dL_isSound_53 : decode cL_isSound 53 = .ok (.goto 4, 3) := by decide +kernel
theorem dL_isSound_56 : decode cL_isSound 56 = .ok (.iconst 0, 1) := by decide +kernel
theorem dL_isSound_57 : decode cL_isSound 57 = .ok (.iload 4, 2) := by decide +kernel
theorem dL_isSound_59 : decode cL_isSound 59 = .ok (.if_icmp .eq 5, 3) := by decide +kernel
theorem dL_isSound_62 : decode cL_isSound 62 = .ok (.iconst 0, 1) := by decide +kernel
theorem dL_isSound_63 : decode cL_isSound 63 = .ok (.ireturn, 1) := by decide +kernel
theorem dL_isSound_64 : decode cL_isSound 64 = .ok (.iload_n 1, 1) := by decide +kernel
theorem dL_isSound_65 : decode cL_isSound 65 = .ok (.iload 4, 2) := by decide +kernel
theorem dL_isSound_67 : decode cL_isSound 67 = .ok (.ifCond .eq 7, 3) := by decide +kernel
theorem dL_isSound_70 : decode cL_isSound 70 = .ok (.iconst 1, 1) := by decide +kernel
theorem dL_isSound_71 : decode cL_isSound 71 = .ok (.goto 4, 3) := by decide +kernel
theorem dL_isSound_74 : decode cL_isSound 74 = .ok (.iconst 0, 1) := by decide +kernel
theorem dL_isSound_75 : decode cL_isSound 75 = .ok (.iadd, 1) := by decide +kernel
theorem dL_isSound_76 : decode cL_isSound 76 = .ok (.istore_n 1, 1) := by decide +kernel
theorem dL_isSound_77 : decode cL_isSound 77 = .ok (.iconst 0, 1) := by decide +kernel
theorem dL_isSound_78 : decode cL_isSound 78 = .ok (.istore 5, 2) := by decide +kernel
theorem dL_isSound_80 : decode cL_isSound 80 = .ok (.iload 5, 2) := by decide +kernel
theorem dL_isSound_82 : decode cL_isSound 82 = .ok (.bipush 6, 2) := by decide +kernel
theorem dL_isSound_84 : decode cL_isSound 84 = .ok (.if_icmp .ge 61, 3) := by decide +kernel
theorem dL_isSound_87 : decode cL_isSound 87 = .ok (.aload_n 0, 1) := by decide +kernel
theorem dL_isSound_88 : decode cL_isSound 88 = .ok (.iload 5, 2) := by decide +kernel
theorem dL_isSound_90 : decode cL_isSound 90 = .ok (.iconst 2, 1) := by decide +kernel
theorem dL_isSound_91 : decode cL_isSound 91 = .ok (.invokevirtual 59, 3) := by decide +kernel
theorem dL_isSound_94 : decode cL_isSound 94 = .ok (.invokestatic 156, 3) := by decide +kernel
theorem dL_isSound_97 : decode cL_isSound 97 = .ok (.aload_n 0, 1) := by decide +kernel
theorem dL_isSound_98 : decode cL_isSound 98 = .ok (.iload_n 2, 1) := by decide +kernel
theorem dL_isSound_99 : decode cL_isSound 99 = .ok (.iconst 2, 1) := by decide +kernel
theorem dL_isSound_100 : decode cL_isSound 100 = .ok (.invokevirtual 77, 3) := by decide +kernel
theorem dL_isSound_103 : decode cL_isSound 103 = .ok (.if_icmp .le 8, 3) := by decide +kernel
theorem dL_isSound_106 : decode cL_isSound 106 = .ok (.bipush 70, 2) := by decide +kernel
theorem dL_isSound_108 : decode cL_isSound 108 = .ok (.goto 5, 3) := by decide +kernel
theorem dL_isSound_111 : decode cL_isSound 111 = .ok (.bipush 100, 2) := by decide +kernel
theorem dL_isSound_113 : decode cL_isSound 113 = .ok (.istore 6, 2) := by decide +kernel
theorem dL_isSound_115 : decode cL_isSound 115 = .ok (.aload_n 0, 1) := by decide +kernel
theorem dL_isSound_116 : decode cL_isSound 116 = .ok (.iload_n 2, 1) := by decide +kernel
theorem dL_isSound_117 : decode cL_isSound 117 = .ok (.iload 5, 2) := by decide +kernel
theorem dL_isSound_119 : decode cL_isSound 119 = .ok (.invokevirtual 56, 3) := by decide +kernel
theorem dL_isSound_122 : decode cL_isSound 122 = .ok (.ifCond .lt 15, 3) := by decide +kernel
theorem dL_isSound_125 : decode cL_isSound 125 = .ok (.aload_n 0, 1) := by decide +kernel
theorem dL_isSound_126 : decode cL_isSound 126 = .ok (.iload_n 2, 1) := by decide +kernel
theorem dL_isSound_127 : decode cL_isSound 127 = .ok (.iload 5, 2) := by decide +kernel
theorem dL_isSound_129 : decode cL_isSound 129 = .ok (.invokevirtual 56, 3) := by decide +kernel
theorem dL_isSound_132 : decode cL_isSound 132 = .ok (.iload 6, 2) := by decide +kernel
theorem dL_isSound_134 : decode cL_isSound 134 = .ok (.if_icmp .le 5, 3) := by decide +kernel
theorem dL_isSound_137 : decode cL_isSound 137 = .ok (.iconst 0, 1) := by decide +kernel
theorem dL_isSound_138 : decode cL_isSound 138 = .ok (.ireturn, 1) := by decide +kernel
theorem dL_isSound_139 : decode cL_isSound 139 = .ok (.iinc 5 1, 3) := by decide +kernel
theorem dL_isSound_142 : decode cL_isSound 142 = .ok (.goto (-62), 3) := by decide +kernel
theorem dL_isSound_145 : decode cL_isSound 145 = .ok (.iinc 2 1, 3) := by decide +kernel
theorem dL_isSound_148 : decode cL_isSound 148 = .ok (.goto (-144), 3) := by decide +kernel
theorem dL_isSound_151 : decode cL_isSound 151 = .ok (.iconst 0, 1) := by decide +kernel
theorem dL_isSound_152 : decode cL_isSound 152 = .ok (.istore_n 2, 1) := by decide +kernel
theorem dL_isSound_153 : decode cL_isSound 153 = .ok (.iload_n 2, 1) := by decide +kernel
theorem dL_isSound_154 : decode cL_isSound 154 = .ok (.iconst 4, 1) := by decide +kernel
theorem dL_isSound_155 : decode cL_isSound 155 = .ok (.if_icmp .ge 131, 3) := by decide +kernel
theorem dL_isSound_158 : decode cL_isSound 158 = .ok (.iconst 0, 1) := by decide +kernel
theorem dL_isSound_159 : decode cL_isSound 159 = .ok (.istore_n 3, 1) := by decide +kernel
theorem dL_isSound_160 : decode cL_isSound 160 = .ok (.iconst 0, 1) := by decide +kernel
theorem dL_isSound_161 : decode cL_isSound 161 = .ok (.istore 4, 2) := by decide +kernel
theorem dL_isSound_163 : decode cL_isSound 163 = .ok (.iload 4, 2) := by decide +kernel
theorem dL_isSound_165 : decode cL_isSound 165 = .ok (.bipush 8, 2) := by decide +kernel
theorem dL_isSound_167 : decode cL_isSound 167 = .ok (.if_icmp .ge 58, 3) := by decide +kernel
theorem dL_isSound_170 : decode cL_isSound 170 = .ok (.aload_n 0, 1) := by decide +kernel
theorem dL_isSound_171 : decode cL_isSound 171 = .ok (.iload_n 2, 1) := by decide +kernel
theorem dL_isSound_172 : decode cL_isSound 172 = .ok (.iload 4, 2) := by decide +kernel
theorem dL_isSound_174 : decode cL_isSound 174 = .ok (.invokevirtual 117, 3) := by decide +kernel
theorem dL_isSound_177 : decode cL_isSound 177 = .ok (.invokestatic 131, 3) := by decide +kernel
theorem dL_isSound_180 : decode cL_isSound 180 = .ok (.bipush 99, 2) := by decide +kernel
theorem dL_isSound_182 : decode cL_isSound 182 = .ok (.if_icmp .le 5, 3) := by decide +kernel
theorem dL_isSound_185 : decode cL_isSound 185 = .ok (.iconst 0, 1) := by decide +kernel
theorem dL_isSound_186 : decode cL_isSound 186 = .ok (.ireturn, 1) := by decide +kernel
theorem dL_isSound_187 : decode cL_isSound 187 = .ok (.iload_n 3, 1) := by decide +kernel
theorem dL_isSound_188 : decode cL_isSound 188 = .ok (.aload_n 0, 1) := by decide +kernel
theorem dL_isSound_189 : decode cL_isSound 189 = .ok (.iload_n 2, 1) := by decide +kernel
theorem dL_isSound_190 : decode cL_isSound 190 = .ok (.iload 4, 2) := by decide +kernel
theorem dL_isSound_192 : decode cL_isSound 192 = .ok (.invokevirtual 117, 3) := by decide +kernel
theorem dL_isSound_195 : decode cL_isSound 195 = .ok (.invokestatic 131, 3) := by decide +kernel
theorem dL_isSound_198 : decode cL_isSound 198 = .ok (.bipush 6, 2) := by decide +kernel
theorem dL_isSound_200 : decode cL_isSound 200 = .ok (.iconst 2, 1) := by decide +kernel
theorem dL_isSound_201 : decode cL_isSound 201 = .ok (.aload_n 0, 1) := by decide +kernel
theorem dL_isSound_202 : decode cL_isSound 202 = .ok (.iload_n 2, 1) := by decide +kernel
theorem dL_isSound_203 : decode cL_isSound 203 = .ok (.iconst 0, 1) := by decide +kernel
theorem dL_isSound_204 : decode cL_isSound 204 = .ok (.invokevirtual 26, 3) := by decide +kernel
theorem dL_isSound_207 : decode cL_isSound 207 = .ok (.imul, 1) := by decide +kernel
theorem dL_isSound_208 : decode cL_isSound 208 = .ok (.iadd, 1) := by decide +kernel
theorem dL_isSound_209 : decode cL_isSound 209 = .ok (.if_icmp .gt 7, 3) := by decide +kernel
theorem dL_isSound_212 : decode cL_isSound 212 = .ok (.iconst 1, 1) := by decide +kernel
theorem dL_isSound_213 : decode cL_isSound 213 = .ok (.goto 4, 3) := by decide +kernel
theorem dL_isSound_216 : decode cL_isSound 216 = .ok (.iconst 0, 1) := by decide +kernel
theorem dL_isSound_217 : decode cL_isSound 217 = .ok (.iadd, 1) := by decide +kernel
theorem dL_isSound_218 : decode cL_isSound 218 = .ok (.istore_n 3, 1) := by decide +kernel
theorem dL_isSound_219 : decode cL_isSound 219 = .ok (.iinc 4 1, 3) := by decide +kernel
theorem dL_isSound_222 : decode cL_isSound 222 = .ok (.goto (-59), 3) := by decide +kernel
theorem dL_isSound_225 : decode cL_isSound 225 = .ok (.aload_n 0, 1) := by decide +kernel
theorem dL_isSound_226 : decode cL_isSound 226 = .ok (.iload_n 2, 1) := by decide +kernel
theorem dL_isSound_227 : decode cL_isSound 227 = .ok (.iconst 2, 1) := by decide +kernel
theorem dL_isSound_228 : decode cL_isSound 228 = .ok (.invokevirtual 26, 3) := by decide +kernel
theorem dL_isSound_231 : decode cL_isSound 231 = .ok (.iconst 1, 1) := by decide +kernel
theorem dL_isSound_232 : decode cL_isSound 232 = .ok (.if_icmp .ne 7, 3) := by decide +kernel
theorem dL_isSound_235 : decode cL_isSound 235 = .ok (.iconst 1, 1) := by decide +kernel
theorem dL_isSound_236 : decode cL_isSound 236 = .ok (.goto 4, 3) := by decide +kernel
theorem dL_isSound_239 : decode cL_isSound 239 = .ok (.iconst 0, 1) := by decide +kernel
theorem dL_isSound_240 : decode cL_isSound 240 = .ok (.istore 4, 2) := by decide +kernel
theorem dL_isSound_242 : decode cL_isSound 242 = .ok (.aload_n 0, 1) := by decide +kernel
theorem dL_isSound_243 : decode cL_isSound 243 = .ok (.iload_n 2, 1) := by decide +kernel
theorem dL_isSound_244 : decode cL_isSound 244 = .ok (.iconst 3, 1) := by decide +kernel
theorem dL_isSound_245 : decode cL_isSound 245 = .ok (.invokevirtual 26, 3) := by decide +kernel
theorem dL_isSound_248 : decode cL_isSound 248 = .ok (.iload 4, 2) := by decide +kernel
theorem dL_isSound_250 : decode cL_isSound 250 = .ok (.ifCond .eq 7, 3) := by decide +kernel
theorem dL_isSound_253 : decode cL_isSound 253 = .ok (.iconst 0, 1) := by decide +kernel
theorem dL_isSound_254 : decode cL_isSound 254 = .ok (.goto 4, 3) := by decide +kernel
theorem dL_isSound_257 : decode cL_isSound 257 = .ok (.iload_n 3, 1) := by decide +kernel
theorem dL_isSound_258 : decode cL_isSound 258 = .ok (.if_icmp .ne 20, 3) := by decide +kernel
theorem dL_isSound_261 : decode cL_isSound 261 = .ok (.iload 4, 2) := by decide +kernel
theorem dL_isSound_263 : decode cL_isSound 263 = .ok (.ifCond .ne 17, 3) := by decide +kernel
theorem dL_isSound_266 : decode cL_isSound 266 = .ok (.aload_n 0, 1) := by decide +kernel
theorem dL_isSound_267 : decode cL_isSound 267 = .ok (.iload_n 2, 1) := by decide +kernel
theorem dL_isSound_268 : decode cL_isSound 268 = .ok (.iconst 1, 1) := by decide +kernel
theorem dL_isSound_269 : decode cL_isSound 269 = .ok (.invokevirtual 26, 3) := by decide +kernel
theorem dL_isSound_272 : decode cL_isSound 272 = .ok (.sipush 299, 3) := by decide +kernel
theorem dL_isSound_275 : decode cL_isSound 275 = .ok (.if_icmp .le 5, 3) := by decide +kernel
theorem dL_isSound_278 : decode cL_isSound 278 = .ok (.iconst 0, 1) := by decide +kernel
theorem dL_isSound_279 : decode cL_isSound 279 = .ok (.ireturn, 1) := by decide +kernel
theorem dL_isSound_280 : decode cL_isSound 280 = .ok (.iinc 2 1, 3) := by decide +kernel
theorem dL_isSound_283 : decode cL_isSound 283 = .ok (.goto (-130), 3) := by decide +kernel
theorem dL_isSound_286 : decode cL_isSound 286 = .ok (.aload_n 0, 1) := by decide +kernel
theorem dL_isSound_287 : decode cL_isSound 287 = .ok (.iconst 0, 1) := by decide +kernel
theorem dL_isSound_288 : decode cL_isSound 288 = .ok (.invokevirtual 161, 3) := by decide +kernel
theorem dL_isSound_291 : decode cL_isSound 291 = .ok (.aload_n 0, 1) := by decide +kernel
theorem dL_isSound_292 : decode cL_isSound 292 = .ok (.iconst 1, 1) := by decide +kernel
theorem dL_isSound_293 : decode cL_isSound 293 = .ok (.invokevirtual 161, 3) := by decide +kernel
theorem dL_isSound_296 : decode cL_isSound 296 = .ok (.iadd, 1) := by decide +kernel
theorem dL_isSound_297 : decode cL_isSound 297 = .ok (.aload_n 0, 1) := by decide +kernel
theorem dL_isSound_298 : decode cL_isSound 298 = .ok (.iconst 2, 1) := by decide +kernel
theorem dL_isSound_299 : decode cL_isSound 299 = .ok (.invokevirtual 161, 3) := by decide +kernel
theorem dL_isSound_302 : decode cL_isSound 302 = .ok (.iadd, 1) := by decide +kernel
theorem dL_isSound_303 : decode cL_isSound 303 = .ok (.aload_n 0, 1) := by decide +kernel
theorem dL_isSound_304 : decode cL_isSound 304 = .ok (.iconst 3, 1) := by decide +kernel
theorem dL_isSound_305 : decode cL_isSound 305 = .ok (.invokevirtual 161, 3) := by decide +kernel
theorem dL_isSound_308 : decode cL_isSound 308 = .ok (.iadd, 1) := by decide +kernel
theorem dL_isSound_309 : decode cL_isSound 309 = .ok (.istore_n 2, 1) := by decide +kernel
theorem dL_isSound_310 : decode cL_isSound 310 = .ok (.aload_n 0, 1) := by decide +kernel
theorem dL_isSound_311 : decode cL_isSound 311 = .ok (.iconst 5, 1) := by decide +kernel
theorem dL_isSound_312 : decode cL_isSound 312 = .ok (.invokevirtual 65, 3) := by decide +kernel
theorem dL_isSound_315 : decode cL_isSound 315 = .ok (.iload_n 1, 1) := by decide +kernel
theorem dL_isSound_316 : decode cL_isSound 316 = .ok (.if_icmp .ne 50, 3) := by decide +kernel
theorem dL_isSound_319 : decode cL_isSound 319 = .ok (.aload_n 0, 1) := by decide +kernel
theorem dL_isSound_320 : decode cL_isSound 320 = .ok (.bipush 10, 2) := by decide +kernel
theorem dL_isSound_322 : decode cL_isSound 322 = .ok (.invokevirtual 65, 3) := by decide +kernel
theorem dL_isSound_325 : decode cL_isSound 325 = .ok (.iload_n 2, 1) := by decide +kernel
theorem dL_isSound_326 : decode cL_isSound 326 = .ok (.if_icmp .ne 40, 3) := by decide +kernel
theorem dL_isSound_329 : decode cL_isSound 329 = .ok (.aload_n 0, 1) := by decide +kernel
theorem dL_isSound_330 : decode cL_isSound 330 = .ok (.iconst 3, 1) := by decide +kernel
theorem dL_isSound_331 : decode cL_isSound 331 = .ok (.invokevirtual 161, 3) := by decide +kernel
theorem dL_isSound_334 : decode cL_isSound 334 = .ok (.aload_n 0, 1) := by decide +kernel
theorem dL_isSound_335 : decode cL_isSound 335 = .ok (.iconst 0, 1) := by decide +kernel
theorem dL_isSound_336 : decode cL_isSound 336 = .ok (.invokevirtual 161, 3) := by decide +kernel
theorem dL_isSound_339 : decode cL_isSound 339 = .ok (.if_icmp .gt 27, 3) := by decide +kernel
theorem dL_isSound_342 : decode cL_isSound 342 = .ok (.aload_n 0, 1) := by decide +kernel
theorem dL_isSound_343 : decode cL_isSound 343 = .ok (.iconst 1, 1) := by decide +kernel
theorem dL_isSound_344 : decode cL_isSound 344 = .ok (.invokevirtual 161, 3) := by decide +kernel
theorem dL_isSound_347 : decode cL_isSound 347 = .ok (.bipush 96, 2) := by decide +kernel
theorem dL_isSound_349 : decode cL_isSound 349 = .ok (.if_icmp .gt 17, 3) := by decide +kernel
theorem dL_isSound_352 : decode cL_isSound 352 = .ok (.aload_n 0, 1) := by decide +kernel
theorem dL_isSound_353 : decode cL_isSound 353 = .ok (.iconst 2, 1) := by decide +kernel
theorem dL_isSound_354 : decode cL_isSound 354 = .ok (.invokevirtual 161, 3) := by decide +kernel
theorem dL_isSound_357 : decode cL_isSound 357 = .ok (.bipush 100, 2) := by decide +kernel
theorem dL_isSound_359 : decode cL_isSound 359 = .ok (.if_icmp .gt 7, 3) := by decide +kernel
theorem dL_isSound_362 : decode cL_isSound 362 = .ok (.iconst 1, 1) := by decide +kernel
theorem dL_isSound_363 : decode cL_isSound 363 = .ok (.goto 4, 3) := by decide +kernel
theorem dL_isSound_366 : decode cL_isSound 366 = .ok (.iconst 0, 1) := by decide +kernel
theorem dL_isSound_367 : decode cL_isSound 367 = .ok (.ireturn, 1) := by decide +kernel
