theorem dL_cell_0 : decode cL_cell 0 = .ok (.iload_n 1, 1) := by decide +kernel
theorem dL_cell_1 : decode cL_cell 1 = .ok (.aload_n 0, 1) := by decide +kernel
theorem dL_cell_2 : decode cL_cell 2 = .ok (.arraylength, 1) := by decide +kernel
theorem dL_cell_3 : decode cL_cell 3 = .ok (.if_icmp .ge 9, 3) := by decide +kernel
theorem dL_cell_6 : decode cL_cell 6 = .ok (.aload_n 0, 1) := by decide +kernel
theorem dL_cell_7 : decode cL_cell 7 = .ok (.iload_n 1, 1) := by decide +kernel
theorem dL_cell_8 : decode cL_cell 8 = .ok (.iaload, 1) := by decide +kernel
theorem dL_cell_9 : decode cL_cell 9 = .ok (.goto 11, 3) := by decide +kernel
theorem dL_cell_12 : decode cL_cell 12 = .ok (.ldc 7, 2) := by decide +kernel
theorem dL_cell_14 : decode cL_cell 14 = .ok (.iload_n 1, 1) := by decide +kernel
theorem dL_cell_15 : decode cL_cell 15 = .ok (.imul, 1) := by decide +kernel
theorem dL_cell_16 : decode cL_cell 16 = .ok (.sipush 4842, 3) := by decide +kernel
theorem dL_cell_19 : decode cL_cell 19 = .ok (.iadd, 1) := by decide +kernel
theorem dL_cell_20 : decode cL_cell 20 = .ok (.ldc 8, 2) := by decide +kernel
theorem dL_cell_22 : decode cL_cell 22 = .ok (.iand, 1) := by decide +kernel
theorem dL_cell_23 : decode cL_cell 23 = .ok (.ireturn, 1) := by decide +kernel
theorem dL_isRing_0 : decode cL_isRing 0 = .ok (.aload_n 0, 1) := by decide +kernel
theorem dL_isRing_1 : decode cL_isRing 1 = .ok (.iload_n 1, 1) := by decide +kernel
theorem dL_isRing_2 : decode cL_isRing 2 = .ok (.iconst 1, 1) := by decide +kernel
theorem dL_isRing_3 : decode cL_isRing 3 = .ok (.invokevirtual 9, 3) := by decide +kernel
theorem dL_isRing_6 : decode cL_isRing 6 = .ok (.iconst 1, 1) := by decide +kernel
theorem dL_isRing_7 : decode cL_isRing 7 = .ok (.if_icmp .ne 7, 3) := by decide +kernel
theorem dL_isRing_10 : decode cL_isRing 10 = .ok (.iconst 1, 1) := by decide +kernel
theorem dL_isRing_11 : decode cL_isRing 11 = .ok (.goto 4, 3) := by decide +kernel
theorem dL_isRing_14 : decode cL_isRing 14 = .ok (.iconst 0, 1) := by decide +kernel
theorem dL_isRing_15 : decode cL_isRing 15 = .ok (.istore_n 2, 1) := by decide +kernel
theorem dL_isRing_16 : decode cL_isRing 16 = .ok (.iconst 0, 1) := by decide +kernel
theorem dL_isRing_17 : decode cL_isRing 17 = .ok (.istore_n 3, 1) := by decide +kernel
theorem dL_isRing_18 : decode cL_isRing 18 = .ok (.iconst 0, 1) := by decide +kernel
theorem dL_isRing_19 : decode cL_isRing 19 = .ok (.istore 4, 2) := by decide +kernel
theorem dL_isRing_21 : decode cL_isRing 21 = .ok (.iconst 0, 1) := by decide +kernel
theorem dL_isRing_22 : decode cL_isRing 22 = .ok (.istore 5, 2) := by decide +kernel
theorem dL_isRing_24 : decode cL_isRing 24 = .ok (.iconst 0, 1) := by decide +kernel
theorem dL_isRing_25 : decode cL_isRing 25 = .ok (.istore 6, 2) := by decide +kernel
theorem dL_isRing_27 : decode cL_isRing 27 = .ok (.iconst 1, 1) := by decide +kernel
theorem dL_isRing_28 : decode cL_isRing 28 = .ok (.istore 7, 2) := by decide +kernel
theorem dL_isRing_30 : decode cL_isRing 30 = .ok (.iconst 0, 1) := by decide +kernel
theorem dL_isRing_31 : decode cL_isRing 31 = .ok (.istore 8, 2) := by decide +kernel
theorem dL_isRing_33 : decode cL_isRing 33 = .ok (.iload 8, 2) := by decide +kernel
theorem dL_isRing_35 : decode cL_isRing 35 = .ok (.bipush 32, 2) := by decide +kernel
theorem dL_isRing_37 : decode cL_isRing 37 = .ok (.if_icmp .ge 341, 3) := by decide +kernel
theorem dL_isRing_40 : decode cL_isRing 40 = .ok (.iload 7, 2) := by decide +kernel
theorem dL_isRing_42 : decode cL_isRing 42 = .ok (.ifCond .eq 336, 3) := by decide +kernel
theorem dL_isRing_45 : decode cL_isRing 45 = .ok (.iload 8, 2) := by decide +kernel
theorem dL_isRing_47 : decode cL_isRing 47 = .ok (.bipush 8, 2) := by decide +kernel
theorem dL_isRing_49 : decode cL_isRing 49 = .ok (.idiv, 1) := by decide +kernel
theorem dL_isRing_50 : decode cL_isRing 50 = .ok (.istore 9, 2) := by decide +kernel
theorem dL_isRing_52 : decode cL_isRing 52 = .ok (.iload 8, 2) := by decide +kernel
theorem dL_isRing_54 : decode cL_isRing 54 = .ok (.bipush 8, 2) := by decide +kernel
theorem dL_isRing_56 : decode cL_isRing 56 = .ok (.irem, 1) := by decide +kernel
theorem dL_isRing_57 : decode cL_isRing 57 = .ok (.istore 10, 2) := by decide +kernel
theorem dL_isRing_59 : decode cL_isRing 59 = .ok (.aload_n 0, 1) := by decide +kernel
theorem dL_isRing_60 : decode cL_isRing 60 = .ok (.iload 9, 2) := by decide +kernel
theorem dL_isRing_62 : decode cL_isRing 62 = .ok (.iload_n 1, 1) := by decide +kernel
theorem dL_isRing_63 : decode cL_isRing 63 = .ok (.iload 10, 2) := by decide +kernel
theorem dL_isRing_65 : decode cL_isRing 65 = .ok (.iconst 0, 1) := by decide +kernel
theorem dL_isRing_66 : decode cL_isRing 66 = .ok (.invokevirtual 15, 3) := by decide +kernel
theorem dL_isRing_69 : decode cL_isRing 69 = .ok (.istore 11, 2) := by decide +kernel
theorem dL_isRing_71 : decode cL_isRing 71 = .ok (.aload_n 0, 1) := by decide +kernel
theorem dL_isRing_72 : decode cL_isRing 72 = .ok (.iload 9, 2) := by decide +kernel
theorem dL_isRing_74 : decode cL_isRing 74 = .ok (.iload_n 1, 1) := by decide +kernel
theorem dL_isRing_75 : decode cL_isRing 75 = .ok (.iload 10, 2) := by decide +kernel
theorem dL_isRing_77 : decode cL_isRing 77 = .ok (.iconst 1, 1) := by decide +kernel
theorem dL_isRing_78 : decode cL_isRing 78 = .ok (.invokevirtual 15, 3) := by decide +kernel
theorem dL_isRing_81 : decode cL_isRing 81 = .ok (.istore 12, 2) := by decide +kernel
theorem dL_isRing_83 : decode cL_isRing 83 = .ok (.aload_n 0, 1) := by decide +kernel
theorem dL_isRing_84 : decode cL_isRing 84 = .ok (.iload 9, 2) := by decide +kernel
theorem dL_isRing_86 : decode cL_isRing 86 = .ok (.iload_n 1, 1) := by decide +kernel
theorem dL_isRing_87 : decode cL_isRing 87 = .ok (.iload 10, 2) := by decide +kernel
theorem dL_isRing_89 : decode cL_isRing 89 = .ok (.iconst 2, 1) := by decide +kernel
theorem dL_isRing_90 : decode cL_isRing 90 = .ok (.invokevirtual 15, 3) := by decide +kernel
theorem dL_isRing_93 : decode cL_isRing 93 = .ok (.istore 13, 2) := by decide +kernel
theorem dL_isRing_95 : decode cL_isRing 95 = .ok (.aload_n 0, 1) := by decide +kernel
theorem dL_isRing_96 : decode cL_isRing 96 = .ok (.iload 9, 2) := by decide +kernel
theorem dL_isRing_98 : decode cL_isRing 98 = .ok (.iload_n 1, 1) := by decide +kernel
theorem dL_isRing_99 : decode cL_isRing 99 = .ok (.iload 10, 2) := by decide +kernel
theorem dL_isRing_101 : decode cL_isRing 101 = .ok (.iconst 4, 1) := by decide +kernel
theorem dL_isRing_102 : decode cL_isRing 102 = .ok (.invokevirtual 15, 3) := by decide +kernel
theorem dL_isRing_105 : decode cL_isRing 105 = .ok (.istore 14, 2) := by decide +kernel
theorem dL_isRing_107 : decode cL_isRing 107 = .ok (.iload_n 2, 1) := by decide +kernel
theorem dL_isRing_108 : decode cL_isRing 108 = .ok (.ifCond .eq 38, 3) := by decide +kernel
theorem dL_isRing_111 : decode cL_isRing 111 = .ok (.iload 13, 2) := by decide +kernel
theorem dL_isRing_113 : decode cL_isRing 113 = .ok (.ifCond .ne 11, 3) := by decide +kernel
theorem dL_isRing_116 : decode cL_isRing 116 = .ok (.iload 12, 2) := by decide +kernel
theorem dL_isRing_118 : decode cL_isRing 118 = .ok (.ifCond .ne 28, 3) := by decide +kernel
theorem dL_isRing_121 : decode cL_isRing 121 = .ok (.goto 21, 3) := by decide +kernel
theorem dL_isRing_124 : decode cL_isRing 124 = .ok (.iload 11, 2) := by decide +kernel
theorem dL_isRing_126 : decode cL_isRing 126 = .ok (.iload 13, 2) := by decide +kernel
theorem dL_isRing_128 : decode cL_isRing 128 = .ok (.if_icmp .ne 18, 3) := by decide +kernel
theorem dL_isRing_131 : decode cL_isRing 131 = .ok (.iload 12, 2) := by decide +kernel
theorem dL_isRing_133 : decode cL_isRing 133 = .ok (.aload_n 0, 1) := by decide +kernel
theorem dL_isRing_134 : decode cL_isRing 134 = .ok (.bipush 7, 2) := by decide +kernel
theorem dL_isRing_136 : decode cL_isRing 136 = .ok (.invokevirtual 19, 3) := by decide +kernel
theorem dL_isRing_139 : decode cL_isRing 139 = .ok (.if_icmp .lt 7, 3) := by decide +kernel
theorem dL_isRing_142 : decode cL_isRing 142 = .ok (.iconst 1, 1) := by decide +kernel
theorem dL_isRing_143 : decode cL_isRing 143 = .ok (.goto 4, 3) := by decide +kernel
theorem dL_isRing_146 : decode cL_isRing 146 = .ok (.iconst 0, 1) := by decide +kernel
theorem dL_isRing_147 : decode cL_isRing 147 = .ok (.istore 15, 2) := by decide +kernel
theorem dL_isRing_149 : decode cL_isRing 149 = .ok (.iload 11, 2) := by decide +kernel
theorem dL_isRing_151 : decode cL_isRing 151 = .ok (.iload 13, 2) := by decide +kernel
theorem dL_isRing_153 : decode cL_isRing 153 = .ok (.if_icmp .ne 8, 3) := by decide +kernel
theorem dL_isRing_156 : decode cL_isRing 156 = .ok (.iload 12, 2) := by decide +kernel
theorem dL_isRing_158 : decode cL_isRing 158 = .ok (.goto 4, 3) := by decide +kernel
theorem dL_isRing_161 : decode cL_isRing 161 = .ok (.iconst 0, 1) := by decide +kernel
theorem dL_isRing_162 : decode cL_isRing 162 = .ok (.istore 16, 2) := by decide +kernel
theorem dL_isRing_164 : decode cL_isRing 164 = .ok (.iload_n 3, 1) := by decide +kernel
theorem dL_isRing_165 : decode cL_isRing 165 = .ok (.iload 15, 2) := by decide +kernel
theorem dL_isRing_167 : decode cL_isRing 167 = .ok (.ifCond .eq 7, 3) := by decide +kernel
theorem dL_isRing_170 : decode cL_isRing 170 = .ok (.iconst 0, 1) := by decide +kernel
theorem dL_isRing_171 : decode cL_isRing 171 = .ok (.goto 4, 3) := by decide +kernel
theorem dL_isRing_174 : decode cL_isRing 174 = .ok (.iconst 1, 1) := by decide +kernel
theorem dL_isRing_175 : decode cL_isRing 175 = .ok (.iadd, 1) := by decide +kernel
theorem dL_isRing_176 : decode cL_isRing 176 = .ok (.istore_n 3, 1) := by decide +kernel
theorem dL_isRing_177 : decode cL_isRing 177 = .ok (.iload 4, 2) := by decide +kernel
theorem dL_isRing_179 : decode cL_isRing 179 = .ok (.iload 12, 2) := by decide +kernel
theorem dL_isRing_181 : decode cL_isRing 181 = .ok (.iadd, 1) := by decide +kernel
theorem dL_isRing_182 : decode cL_isRing 182 = .ok (.istore 4, 2) := by decide +kernel
theorem dL_isRing_184 : decode cL_isRing 184 = .ok (.iload 5, 2) := by decide +kernel
theorem dL_isRing_186 : decode cL_isRing 186 = .ok (.iload_n 2, 1) := by decide +kernel
theorem dL_isRing_187 : decode cL_isRing 187 = .ok (.ifCond .eq 31, 3) := by decide +kernel
theorem dL_isRing_190 : decode cL_isRing 190 = .ok (.iload 13, 2) := by decide +kernel
theorem dL_isRing_192 : decode cL_isRing 192 = .ok (.ifCond .le 26, 3) := by decide +kernel
theorem dL_isRing_195 : decode cL_isRing 195 = .ok (.iload 16, 2) := by decide +kernel
theorem dL_isRing_197 : decode cL_isRing 197 = .ok (.aload_n 0, 1) := by decide +kernel
theorem dL_isRing_198 : decode cL_isRing 198 = .ok (.bipush 7, 2) := by decide +kernel
theorem dL_isRing_200 : decode cL_isRing 200 = .ok (.invokevirtual 19, 3) := by decide +kernel
theorem dL_isRing_203 : decode cL_isRing 203 = .ok (.if_icmp .ge 15, 3) := by decide +kernel
theorem dL_isRing_206 : decode cL_isRing 206 = .ok (.aload_n 0, 1) := by decide +kernel
theorem dL_isRing_207 : decode cL_isRing 207 = .ok (.bipush 7, 2) := by decide +kernel
theorem dL_isRing_209 : decode cL_isRing 209 = .ok (.invokevirtual 19, 3) := by decide +kernel
theorem dL_isRing_212 : decode cL_isRing 212 = .ok (.iload 16, 2) := by decide +kernel
theorem dL_isRing_214 : decode cL_isRing 214 = .ok (.isub, 1) := by decide +kernel
theorem dL_isRing_215 : decode cL_isRing 215 = .ok (.goto 4, 3) := by decide +kernel
theorem dL_isRing_218 : decode cL_isRing 218 = .ok (.iconst 0, 1) := by decide +kernel
theorem dL_isRing_219 : decode cL_isRing 219 = .ok (.iadd, 1) := by decide +kernel
theorem dL_isRing_220 : decode cL_isRing 220 = .ok (.istore 5, 2) := by decide +kernel
theorem dL_isRing_222 : decode cL_isRing 222 = .ok (.aload_n 0, 1) := by decide +kernel
theorem dL_isRing_223 : decode cL_isRing 223 = .ok (.iconst 0, 1) := by decide +kernel
theorem dL_isRing_224 : decode cL_isRing 224 = .ok (.iload_n 1, 1) := by decide +kernel
theorem dL_isRing_225 : decode cL_isRing 225 = .ok (.iload 14, 2) := by decide +kernel
theorem dL_isRing_227 : decode cL_isRing 227 = .ok (.iconst 0, 1) := by decide +kernel
theorem dL_isRing_228 : decode cL_isRing 228 = .ok (.invokevirtual 15, 3) := by decide +kernel
theorem dL_isRing_231 : decode cL_isRing 231 = .ok (.istore 17, 2) := by decide +kernel
theorem dL_isRing_233 : decode cL_isRing 233 = .ok (.iload 6, 2) := by decide +kernel
theorem dL_isRing_235 : decode cL_isRing 235 = .ok (.iload 11, 2) := by decide +kernel
theorem dL_isRing_237 : decode cL_isRing 237 = .ok (.iload 17, 2) := by decide +kernel
theorem dL_isRing_239 : decode cL_isRing 239 = .ok (.if_icmp .ne 7, 3) := by decide +kernel
theorem dL_isRing_242 : decode cL_isRing 242 = .ok (.iconst 0, 1) := by decide +kernel
theorem dL_isRing_243 : decode cL_isRing 243 = .ok (.goto 7, 3) := by decide +kernel
theorem dL_isRing_246 : decode cL_isRing 246 = .ok (.iconst 1, 1) := by decide +kernel
theorem dL_isRing_247 : decode cL_isRing 247 = .ok (.iload 14, 2) := by decide +kernel
theorem dL_isRing_249 : decode cL_isRing 249 = .ok (.ishl, 1) := by decide +kernel
theorem dL_isRing_250 : decode cL_isRing 250 = .ok (.ior, 1) := by decide +kernel
theorem dL_isRing_251 : decode cL_isRing 251 = .ok (.istore 6, 2) := by decide +kernel
theorem dL_isRing_253 : decode cL_isRing 253 = .ok (.iload 12, 2) := by decide +kernel
theorem dL_isRing_255 : decode cL_isRing 255 = .ok (.ifCond .ne 7, 3) := by decide +kernel
theorem dL_isRing_258 : decode cL_isRing 258 = .ok (.iconst 1, 1) := by decide +kernel
theorem dL_isRing_259 : decode cL_isRing 259 = .ok (.goto 4, 3) := by decide +kernel
theorem dL_isRing_262 : decode cL_isRing 262 = .ok (.iconst 0, 1) := by decide +kernel
theorem dL_isRing_263 : decode cL_isRing 263 = .ok (.iload 11, 2) := by decide +kernel
theorem dL_isRing_265 : decode cL_isRing 265 = .ok (.ifCond .ne 7, 3) := by decide +kernel
theorem dL_isRing_268 : decode cL_isRing 268 = .ok (.iconst 1, 1) := by decide +kernel
theorem dL_isRing_269 : decode cL_isRing 269 = .ok (.goto 4, 3) := by decide +kernel
theorem dL_isRing_272 : decode cL_isRing 272 = .ok (.iconst 0, 1) := by decide +kernel
theorem dL_isRing_273 : decode cL_isRing 273 = .ok (.if_icmp .ne 96, 3) := by decide +kernel
theorem dL_isRing_276 : decode cL_isRing 276 = .ok (.iload 12, 2) := by decide +kernel
theorem dL_isRing_278 : decode cL_isRing 278 = .ok (.bipush 99, 2) := by decide +kernel
theorem dL_isRing_280 : decode cL_isRing 280 = .ok (.if_icmp .gt 89, 3) := by decide +kernel
theorem dL_isRing_283 : decode cL_isRing 283 = .ok (.iload 11, 2) := by decide +kernel
theorem dL_isRing_285 : decode cL_isRing 285 = .ok (.bipush 6, 2) := by decide +kernel
theorem dL_isRing_287 : decode cL_isRing 287 = .ok (.if_icmp .gt 82, 3) := by decide +kernel
theorem dL_isRing_290 : decode cL_isRing 290 = .ok (.iload 14, 2) := by decide +kernel
theorem dL_isRing_292 : decode cL_isRing 292 = .ok (.aload_n 0, 1) := by decide +kernel
theorem dL_isRing_293 : decode cL_isRing 293 = .ok (.iload 9, 2) := by decide +kernel
theorem dL_isRing_295 : decode cL_isRing 295 = .ok (.iconst 3, 1) := by decide +kernel
theorem dL_isRing_296 : decode cL_isRing 296 = .ok (.invokevirtual 23, 3) := by decide +kernel
theorem dL_isRing_299 : decode cL_isRing 299 = .ok (.iconst 1, 1) := by decide +kernel
theorem dL_isRing_300 : decode cL_isRing 300 = .ok (.if_icmp .ne 11, 3) := by decide +kernel
theorem dL_isRing_303 : decode cL_isRing 303 = .ok (.bipush 7, 2) := by decide +kernel
theorem dL_isRing_305 : decode cL_isRing 305 = .ok (.iload 10, 2) := by decide +kernel
theorem dL_isRing_307 : decode cL_isRing 307 = .ok (.isub, 1) := by decide +kernel
theorem dL_isRing_308 : decode cL_isRing 308 = .ok (.goto 5, 3) := by decide +kernel
theorem dL_isRing_311 : decode cL_isRing 311 = .ok (.iload 10, 2) := by decide +kernel
theorem dL_isRing_313 : decode cL_isRing 313 = .ok (.if_icmp .ne 56, 3) := by decide +kernel
theorem dL_isRing_316 : decode cL_isRing 316 = .ok (.iload_n 2, 1) := by decide +kernel
theorem dL_isRing_317 : decode cL_isRing 317 = .ok (.ifCond .eq 18, 3) := by decide +kernel
theorem dL_isRing_320 : decode cL_isRing 320 = .ok (.iload 13, 2) := by decide +kernel
theorem dL_isRing_322 : decode cL_isRing 322 = .ok (.ifCond .lt 47, 3) := by decide +kernel
theorem dL_isRing_325 : decode cL_isRing 325 = .ok (.iload 13, 2) := by decide +kernel
theorem dL_isRing_327 : decode cL_isRing 327 = .ok (.bipush 6, 2) := by decide +kernel
theorem dL_isRing_329 : decode cL_isRing 329 = .ok (.if_icmp .gt 40, 3) := by decide +kernel
theorem dL_isRing_332 : decode cL_isRing 332 = .ok (.goto 10, 3) := by decide +kernel
theorem dL_isRing_335 : decode cL_isRing 335 = .ok (.iload 13, 2) := by decide +kernel
theorem dL_isRing_337 : decode cL_isRing 337 = .ok (.bipush (-6), 2) := by decide +kernel
theorem dL_isRing_339 : decode cL_isRing 339 = .ok (.if_icmp .ne 30, 3) := by decide +kernel
theorem dL_isRing_342 : decode cL_isRing 342 = .ok (.aload_n 0, 1) := by decide +kernel
theorem dL_isRing_343 : decode cL_isRing 343 = .ok (.iload 9, 2) := by decide +kernel
theorem dL_isRing_345 : decode cL_isRing 345 = .ok (.iload_n 1, 1) := by decide +kernel
theorem dL_isRing_346 : decode cL_isRing 346 = .ok (.iload 10, 2) := by decide +kernel
theorem dL_isRing_348 : decode cL_isRing 348 = .ok (.iconst 3, 1) := by decide +kernel
theorem dL_isRing_349 : decode cL_isRing 349 = .ok (.invokevirtual 15, 3) := by decide +kernel
theorem dL_isRing_352 : decode cL_isRing 352 = .ok (.iload 15, 2) := by decide +kernel
theorem dL_isRing_354 : decode cL_isRing 354 = .ok (.ifCond .eq 7, 3) := by decide +kernel
theorem dL_isRing_357 : decode cL_isRing 357 = .ok (.iconst 1, 1) := by decide +kernel
theorem dL_isRing_358 : decode cL_isRing 358 = .ok (.goto 4, 3) := by decide +kernel
theorem dL_isRing_361 : decode cL_isRing 361 = .ok (.iconst 0, 1) := by decide +kernel
theorem dL_isRing_362 : decode cL_isRing 362 = .ok (.if_icmp .ne 7, 3) := by decide +kernel
theorem dL_isRing_365 : decode cL_isRing 365 = .ok (.iconst 1, 1) := by decide +kernel
theorem dL_isRing_366 : decode cL_isRing 366 = .ok (.goto 4, 3) := by decide +kernel
theorem dL_isRing_369 : decode cL_isRing 369 = .ok (.iconst 0, 1) := by decide +kernel
theorem dL_isRing_370 : decode cL_isRing 370 = .ok (.istore 7, 2) := by decide +kernel
theorem dL_isRing_372 : decode cL_isRing 372 = .ok (.iinc 8 1, 3) := by decide +kernel
theorem dL_isRing_375 : decode cL_isRing 375 = .ok (.goto (-342), 3) := by decide +kernel
theorem dL_isRing_378 : decode cL_isRing 378 = .ok (.iload 7, 2) := by decide +kernel
theorem dL_isRing_380 : decode cL_isRing 380 = .ok (.ifCond .eq 101, 3) := by decide +kernel
theorem dL_isRing_383 : decode cL_isRing 383 = .ok (.aload_n 0, 1) := by decide +kernel
theorem dL_isRing_384 : decode cL_isRing 384 = .ok (.iload_n 1, 1) := by decide +kernel
theorem dL_isRing_385 : decode cL_isRing 385 = .ok (.iconst 4, 1) := by decide +kernel
theorem dL_isRing_386 : decode cL_isRing 386 = .ok (.invokevirtual 9, 3) := by decide +kernel
theorem dL_isRing_389 : decode cL_isRing 389 = .ok (.iload_n 3, 1) := by decide +kernel
theorem dL_isRing_390 : decode cL_isRing 390 = .ok (.if_icmp .ne 91, 3) := by decide +kernel
theorem dL_isRing_393 : decode cL_isRing 393 = .ok (.aload_n 0, 1) := by decide +kernel
theorem dL_isRing_394 : decode cL_isRing 394 = .ok (.iload_n 1, 1) := by decide +kernel
theorem dL_isRing_395 : decode cL_isRing 395 = .ok (.iconst 2, 1) := by decide +kernel
theorem dL_isRing_396 : decode cL_isRing 396 = .ok (.invokevirtual 9, 3) := by decide +kernel
theorem dL_isRing_399 : decode cL_isRing 399 = .ok (.iload_n 3, 1) := by decide +kernel
theorem dL_isRing_400 : decode cL_isRing 400 = .ok (.ifCond .ne 7, 3) := by decide +kernel
theorem dL_isRing_403 : decode cL_isRing 403 = .ok (.iconst 1, 1) := by decide +kernel
theorem dL_isRing_404 : decode cL_isRing 404 = .ok (.goto 4, 3) := by decide +kernel
theorem dL_isRing_407 : decode cL_isRing 407 = .ok (.iconst 0, 1) := by decide +kernel
theorem dL_isRing_408 : decode cL_isRing 408 = .ok (.if_icmp .ne 73, 3) := by decide +kernel
theorem dL_isRing_411 : decode cL_isRing 411 = .ok (.aload_n 0, 1) := by decide +kernel
theorem dL_isRing_412 : decode cL_isRing 412 = .ok (.iload_n 1, 1) := by decide +kernel
theorem dL_isRing_413 : decode cL_isRing 413 = .ok (.iconst 5, 1) := by decide +kernel
theorem dL_isRing_414 : decode cL_isRing 414 = .ok (.invokevirtual 9, 3) := by decide +kernel
theorem dL_isRing_417 : decode cL_isRing 417 = .ok (.iload 4, 2) := by decide +kernel
theorem dL_isRing_419 : decode cL_isRing 419 = .ok (.if_icmp .ne 62, 3) := by decide +kernel
theorem dL_isRing_422 : decode cL_isRing 422 = .ok (.aload_n 0, 1) := by decide +kernel
theorem dL_isRing_423 : decode cL_isRing 423 = .ok (.iload_n 1, 1) := by decide +kernel
theorem dL_isRing_424 : decode cL_isRing 424 = .ok (.bipush 6, 2) := by decide +kernel
theorem dL_isRing_426 : decode cL_isRing 426 = .ok (.invokevirtual 9, 3) := by decide +kernel
theorem dL_isRing_429 : decode cL_isRing 429 = .ok (.iload 5, 2) := by decide +kernel
theorem dL_isRing_431 : decode cL_isRing 431 = .ok (.if_icmp .ne 50, 3) := by decide +kernel
theorem dL_isRing_434 : decode cL_isRing 434 = .ok (.aload_n 0, 1) := by decide +kernel
theorem dL_isRing_435 : decode cL_isRing 435 = .ok (.iload_n 1, 1) := by decide +kernel
theorem dL_isRing_436 : decode cL_isRing 436 = .ok (.iconst 3, 1) := by decide +kernel
theorem dL_isRing_437 : decode cL_isRing 437 = .ok (.invokevirtual 9, 3) := by decide +kernel
theorem dL_isRing_440 : decode cL_isRing 440 = .ok (.iload 6, 2) := by decide +kernel
theorem dL_isRing_442 : decode cL_isRing 442 = .ok (.if_icmp .ne 39, 3) := by decide +kernel
theorem dL_isRing_445 : decode cL_isRing 445 = .ok (.aload_n 0, 1) := by decide +kernel
theorem dL_isRing_446 : decode cL_isRing 446 = .ok (.iload_n 1, 1) := by decide +kernel
theorem dL_isRing_447 : decode cL_isRing 447 = .ok (.iconst 0, 1) := by decide +kernel
theorem dL_isRing_448 : decode cL_isRing 448 = .ok (.invokevirtual 9, 3) := by decide +kernel
theorem dL_isRing_451 : decode cL_isRing 451 = .ok (.iconst 1, 1) := by decide +kernel
theorem dL_isRing_452 : decode cL_isRing 452 = .ok (.if_icmp .ne 7, 3) := by decide +kernel
theorem dL_isRing_455 : decode cL_isRing 455 = .ok (.iconst 1, 1) := by decide +kernel
theorem dL_isRing_456 : decode cL_isRing 456 = .ok (.goto 4, 3) := by decide +kernel
theorem dL_isRing_459 : decode cL_isRing 459 = .ok (.iconst 0, 1) := by decide +kernel
theorem dL_isRing_460 : decode cL_isRing 460 = .ok (.iload_n 1, 1) := by decide +kernel
theorem dL_isRing_461 : decode cL_isRing 461 = .ok (.aload_n 0, 1) := by decide +kernel
theorem dL_isRing_462 : decode cL_isRing 462 = .ok (.iconst 0, 1) := by decide +kernel
theorem dL_isRing_463 : decode cL_isRing 463 = .ok (.invokevirtual 19, 3) := by decide +kernel
theorem dL_isRing_466 : decode cL_isRing 466 = .ok (.if_icmp .ge 7, 3) := by decide +kernel
theorem dL_isRing_469 : decode cL_isRing 469 = .ok (.iconst 1, 1) := by decide +kernel
theorem dL_isRing_470 : decode cL_isRing 470 = .ok (.goto 4, 3) := by decide +kernel
theorem dL_isRing_473 : decode cL_isRing 473 = .ok (.iconst 0, 1) := by decide +kernel
theorem dL_isRing_474 : decode cL_isRing 474 = .ok (.if_icmp .ne 7, 3) := by decide +kernel
theorem dL_isRing_477 : decode cL_isRing 477 = .ok (.iconst 1, 1) := by decide +kernel
theorem dL_isRing_478 : decode cL_isRing 478 = .ok (.goto 4, 3) := by decide +kernel
theorem dL_isRing_481 : decode cL_isRing 481 = .ok (.iconst 0, 1) := by decide +kernel
theorem dL_isRing_482 : decode cL_isRing 482 = .ok (.ireturn, 1) := by decide +kernel
theorem dL_areSums_0 : decode cL_areSums 0 = .ok (.iconst 0, 1) := by decide +kernel
theorem dL_areSums_1 : decode cL_areSums 1 = .ok (.istore_n 1, 1) := by decide +kernel
theorem dL_areSums_2 : decode cL_areSums 2 = .ok (.iconst 0, 1) := by decide +kernel
theorem dL_areSums_3 : decode cL_areSums 3 = .ok (.istore_n 2, 1) := by decide +kernel
theorem dL_areSums_4 : decode cL_areSums 4 = .ok (.iconst 0, 1) := by decide +kernel
theorem dL_areSums_5 : decode cL_areSums 5 = .ok (.istore_n 3, 1) := by decide +kernel
theorem dL_areSums_6 : decode cL_areSums 6 = .ok (.iconst 0, 1) := by decide +kernel
theorem dL_areSums_7 : decode cL_areSums 7 = .ok (.istore 4, 2) := by decide +kernel
theorem dL_areSums_9 : decode cL_areSums 9 = .ok (.iconst 0, 1) := by decide +kernel
theorem dL_areSums_10 : decode cL_areSums 10 = .ok (.istore 5, 2) := by decide +kernel
theorem dL_areSums_12 : decode cL_areSums 12 = .ok (.iconst 0, 1) := by decide +kernel
theorem dL_areSums_13 : decode cL_areSums 13 = .ok (.istore 6, 2) := by decide +kernel
theorem dL_areSums_15 : decode cL_areSums 15 = .ok (.iconst 0, 1) := by decide +kernel
theorem dL_areSums_16 : decode cL_areSums 16 = .ok (.istore 7, 2) := by decide +kernel
theorem dL_areSums_18 : decode cL_areSums 18 = .ok (.iconst 1, 1) := by decide +kernel
theorem dL_areSums_19 : decode cL_areSums 19 = .ok (.istore 8, 2) := by decide +kernel
theorem dL_areSums_21 : decode cL_areSums 21 = .ok (.iconst 0, 1) := by decide +kernel
theorem dL_areSums_22 : decode cL_areSums 22 = .ok (.istore 9, 2) := by decide +kernel
theorem dL_areSums_24 : decode cL_areSums 24 = .ok (.iload 9, 2) := by decide +kernel
theorem dL_areSums_26 : decode cL_areSums 26 = .ok (.iconst 5, 1) := by decide +kernel
theorem dL_areSums_27 : decode cL_areSums 27 = .ok (.if_icmp .ge 60, 3) := by decide +kernel
theorem dL_areSums_30 : decode cL_areSums 30 = .ok (.iload 8, 2) := by decide +kernel
theorem dL_areSums_32 : decode cL_areSums 32 = .ok (.ifCond .eq 55, 3) := by decide +kernel
theorem dL_areSums_35 : decode cL_areSums 35 = .ok (.iload_n 1, 1) := by decide +kernel
theorem dL_areSums_36 : decode cL_areSums 36 = .ok (.aload_n 0, 1) := by decide +kernel
theorem dL_areSums_37 : decode cL_areSums 37 = .ok (.iload 9, 2) := by decide +kernel
theorem dL_areSums_39 : decode cL_areSums 39 = .ok (.iconst 5, 1) := by decide +kernel
theorem dL_areSums_40 : decode cL_areSums 40 = .ok (.invokevirtual 9, 3) := by decide +kernel
theorem dL_areSums_43 : decode cL_areSums 43 = .ok (.iadd, 1) := by decide +kernel
theorem dL_areSums_44 : decode cL_areSums 44 = .ok (.istore_n 1, 1) := by decide +kernel
theorem dL_areSums_45 : decode cL_areSums 45 = .ok (.iload 4, 2) := by decide +kernel
theorem dL_areSums_47 : decode cL_areSums 47 = .ok (.aload_n 0, 1) := by decide +kernel
theorem dL_areSums_48 : decode cL_areSums 48 = .ok (.iload 9, 2) := by decide +kernel
theorem dL_areSums_50 : decode cL_areSums 50 = .ok (.bipush 6, 2) := by decide +kernel
theorem dL_areSums_52 : decode cL_areSums 52 = .ok (.invokevirtual 9, 3) := by decide +kernel
theorem dL_areSums_55 : decode cL_areSums 55 = .ok (.iadd, 1) := by decide +kernel
theorem dL_areSums_56 : decode cL_areSums 56 = .ok (.istore 4, 2) := by decide +kernel
theorem dL_areSums_58 : decode cL_areSums 58 = .ok (.iload 6, 2) := by decide +kernel
theorem dL_areSums_60 : decode cL_areSums 60 = .ok (.aload_n 0, 1) := by decide +kernel
theorem dL_areSums_61 : decode cL_areSums 61 = .ok (.iload 9, 2) := by decide +kernel
theorem dL_areSums_63 : decode cL_areSums 63 = .ok (.iconst 2, 1) := by decide +kernel
theorem dL_areSums_64 : decode cL_areSums 64 = .ok (.invokevirtual 9, 3) := by decide +kernel
theorem dL_areSums_67 : decode cL_areSums 67 = .ok (.iload 9, 2) := by decide +kernel
theorem dL_areSums_69 : decode cL_areSums 69 = .ok (.ishl, 1) := by decide +kernel
theorem dL_areSums_70 : decode cL_areSums 70 = .ok (.ior, 1) := by decide +kernel
theorem dL_areSums_71 : decode cL_areSums 71 = .ok (.istore 6, 2) := by decide +kernel
theorem dL_areSums_73 : decode cL_areSums 73 = .ok (.aload_n 0, 1) := by decide +kernel
theorem dL_areSums_74 : decode cL_areSums 74 = .ok (.iload 9, 2) := by decide +kernel
theorem dL_areSums_76 : decode cL_areSums 76 = .ok (.invokestatic 26, 3) := by decide +kernel
theorem dL_areSums_79 : decode cL_areSums 79 = .ok (.istore 8, 2) := by decide +kernel
theorem dL_areSums_81 : decode cL_areSums 81 = .ok (.iinc 9 1, 3) := by decide +kernel
theorem dL_areSums_84 : decode cL_areSums 84 = .ok (.goto (-60), 3) := by decide +kernel
theorem dL_areSums_87 : decode cL_areSums 87 = .ok (.iconst 0, 1) := by decide +kernel
theorem dL_areSums_88 : decode cL_areSums 88 = .ok (.istore 9, 2) := by decide +kernel
theorem dL_areSums_90 : decode cL_areSums 90 = .ok (.iload 9, 2) := by decide +kernel
theorem dL_areSums_92 : decode cL_areSums 92 = .ok (.iconst 4, 1) := by decide +kernel
theorem dL_areSums_93 : decode cL_areSums 93 = .ok (.if_icmp .ge 98, 3) := by decide +kernel
theorem dL_areSums_96 : decode cL_areSums 96 = .ok (.iload 8, 2) := by decide +kernel
theorem dL_areSums_98 : decode cL_areSums 98 = .ok (.ifCond .eq 93, 3) := by decide +kernel
theorem dL_areSums_101 : decode cL_areSums 101 = .ok (.iconst 0, 1) := by decide +kernel
theorem dL_areSums_102 : decode cL_areSums 102 = .ok (.istore 10, 2) := by decide +kernel
theorem dL_areSums_104 : decode cL_areSums 104 = .ok (.iconst 1, 1) := by decide +kernel
theorem dL_areSums_105 : decode cL_areSums 105 = .ok (.istore 11, 2) := by decide +kernel
theorem dL_areSums_107 : decode cL_areSums 107 = .ok (.iload 11, 2) := by decide +kernel
theorem dL_areSums_109 : decode cL_areSums 109 = .ok (.bipush 7, 2) := by decide +kernel
theorem dL_areSums_111 : decode cL_areSums 111 = .ok (.if_icmp .ge 24, 3) := by decide +kernel
theorem dL_areSums_114 : decode cL_areSums 114 = .ok (.iload 10, 2) := by decide +kernel
theorem dL_areSums_116 : decode cL_areSums 116 = .ok (.aload_n 0, 1) := by decide +kernel
theorem dL_areSums_117 : decode cL_areSums 117 = .ok (.iload 9, 2) := by decide +kernel
theorem dL_areSums_119 : decode cL_areSums 119 = .ok (.iconst 4, 1) := by decide +kernel
theorem dL_areSums_120 : decode cL_areSums 120 = .ok (.iload 11, 2) := by decide +kernel
theorem dL_areSums_122 : decode cL_areSums 122 = .ok (.iadd, 1) := by decide +kernel
theorem dL_areSums_123 : decode cL_areSums 123 = .ok (.invokevirtual 23, 3) := by decide +kernel
theorem dL_areSums_126 : decode cL_areSums 126 = .ok (.iadd, 1) := by decide +kernel
theorem dL_areSums_127 : decode cL_areSums 127 = .ok (.istore 10, 2) := by decide +kernel
theorem dL_areSums_129 : decode cL_areSums 129 = .ok (.iinc 11 1, 3) := by decide +kernel
theorem dL_areSums_132 : decode cL_areSums 132 = .ok (.goto (-25), 3) := by decide +kernel
theorem dL_areSums_135 : decode cL_areSums 135 = .ok (.iload_n 2, 1) := by decide +kernel
theorem dL_areSums_136 : decode cL_areSums 136 = .ok (.iload 10, 2) := by decide +kernel
theorem dL_areSums_138 : decode cL_areSums 138 = .ok (.iadd, 1) := by decide +kernel
theorem dL_areSums_139 : decode cL_areSums 139 = .ok (.istore_n 2, 1) := by decide +kernel
theorem dL_areSums_140 : decode cL_areSums 140 = .ok (.aload_n 0, 1) := by decide +kernel
theorem dL_areSums_141 : decode cL_areSums 141 = .ok (.iload 9, 2) := by decide +kernel
theorem dL_areSums_143 : decode cL_areSums 143 = .ok (.iconst 2, 1) := by decide +kernel
theorem dL_areSums_144 : decode cL_areSums 144 = .ok (.invokevirtual 23, 3) := by decide +kernel
theorem dL_areSums_147 : decode cL_areSums 147 = .ok (.istore 11, 2) := by decide +kernel
theorem dL_areSums_149 : decode cL_areSums 149 = .ok (.iload 10, 2) := by decide +kernel
theorem dL_areSums_151 : decode cL_areSums 151 = .ok (.aload_n 0, 1) := by decide +kernel
theorem dL_areSums_152 : decode cL_areSums 152 = .ok (.iload 9, 2) := by decide +kernel
theorem dL_areSums_154 : decode cL_areSums 154 = .ok (.iconst 0, 1) := by decide +kernel
theorem dL_areSums_155 : decode cL_areSums 155 = .ok (.invokevirtual 23, 3) := by decide +kernel
theorem dL_areSums_158 : decode cL_areSums 158 = .ok (.if_icmp .ne 24, 3) := by decide +kernel
theorem dL_areSums_161 : decode cL_areSums 161 = .ok (.iload 11, 2) := by decide +kernel
theorem dL_areSums_163 : decode cL_areSums 163 = .ok (.ifCond .eq 15, 3) := by decide +kernel
theorem dL_areSums_166 : decode cL_areSums 166 = .ok (.aload_n 0, 1) := by decide +kernel
theorem dL_areSums_167 : decode cL_areSums 167 = .ok (.iload 11, 2) := by decide +kernel
theorem dL_areSums_169 : decode cL_areSums 169 = .ok (.iconst 1, 1) := by decide +kernel
theorem dL_areSums_170 : decode cL_areSums 170 = .ok (.invokevirtual 32, 3) := by decide +kernel
theorem dL_areSums_173 : decode cL_areSums 173 = .ok (.iload 9, 2) := by decide +kernel
theorem dL_areSums_175 : decode cL_areSums 175 = .ok (.if_icmp .ne 7, 3) := by decide +kernel
theorem dL_areSums_178 : decode cL_areSums 178 = .ok (.iconst 1, 1) := by decide +kernel
theorem dL_areSums_179 : decode cL_areSums 179 = .ok (.goto 4, 3) := by decide +kernel
theorem dL_areSums_182 : decode cL_areSums 182 = .ok (.iconst 0, 1) := by decide +kernel
theorem dL_areSums_183 : decode cL_areSums 183 = .ok (.istore 8, 2) := by decide +kernel
theorem dL_areSums_185 : decode cL_areSums 185 = .ok (.iinc 9 1, 3) := by decide +kernel
theorem dL_areSums_188 : decode cL_areSums 188 = .ok (.goto (-98), 3) := by decide +kernel
theorem dL_areSums_191 : decode cL_areSums 191 = .ok (.iconst 1, 1) := by decide +kernel
theorem dL_areSums_192 : decode cL_areSums 192 = .ok (.istore 9, 2) := by decide +kernel
theorem dL_areSums_194 : decode cL_areSums 194 = .ok (.iload 9, 2) := by decide +kernel
theorem dL_areSums_196 : decode cL_areSums 196 = .ok (.bipush 7, 2) := by decide +kernel
theorem dL_areSums_198 : decode cL_areSums 198 = .ok (.if_icmp .ge 101, 3) := by decide +kernel
theorem dL_areSums_201 : decode cL_areSums 201 = .ok (.iload 8, 2) := by decide +kernel
theorem dL_areSums_203 : decode cL_areSums 203 = .ok (.ifCond .eq 96, 3) := by decide +kernel
theorem dL_areSums_206 : decode cL_areSums 206 = .ok (.aload_n 0, 1) := by decide +kernel
theorem dL_areSums_207 : decode cL_areSums 207 = .ok (.iload 9, 2) := by decide +kernel
theorem dL_areSums_209 : decode cL_areSums 209 = .ok (.iconst 1, 1) := by decide +kernel
theorem dL_areSums_210 : decode cL_areSums 210 = .ok (.invokevirtual 32, 3) := by decide +kernel
theorem dL_areSums_213 : decode cL_areSums 213 = .ok (.istore 10, 2) := by decide +kernel
theorem dL_areSums_215 : decode cL_areSums 215 = .ok (.iload_n 3, 1) := by decide +kernel
theorem dL_areSums_216 : decode cL_areSums 216 = .ok (.aload_n 0, 1) := by decide +kernel
theorem dL_areSums_217 : decode cL_areSums 217 = .ok (.iload 9, 2) := by decide +kernel
theorem dL_areSums_219 : decode cL_areSums 219 = .ok (.iconst 2, 1) := by decide +kernel
theorem dL_areSums_220 : decode cL_areSums 220 = .ok (.invokevirtual 32, 3) := by decide +kernel
theorem dL_areSums_223 : decode cL_areSums 223 = .ok (.iadd, 1) := by decide +kernel
theorem dL_areSums_224 : decode cL_areSums 224 = .ok (.istore_n 3, 1) := by decide +kernel
theorem dL_areSums_225 : decode cL_areSums 225 = .ok (.iload 5, 2) := by decide +kernel
theorem dL_areSums_227 : decode cL_areSums 227 = .ok (.aload_n 0, 1) := by decide +kernel
theorem dL_areSums_228 : decode cL_areSums 228 = .ok (.iload 9, 2) := by decide +kernel
theorem dL_areSums_230 : decode cL_areSums 230 = .ok (.iconst 4, 1) := by decide +kernel
theorem dL_areSums_231 : decode cL_areSums 231 = .ok (.invokevirtual 32, 3) := by decide +kernel
theorem dL_areSums_234 : decode cL_areSums 234 = .ok (.iadd, 1) := by decide +kernel
theorem dL_areSums_235 : decode cL_areSums 235 = .ok (.istore 5, 2) := by decide +kernel
theorem dL_areSums_237 : decode cL_areSums 237 = .ok (.iload 7, 2) := by decide +kernel
theorem dL_areSums_239 : decode cL_areSums 239 = .ok (.aload_n 0, 1) := by decide +kernel
theorem dL_areSums_240 : decode cL_areSums 240 = .ok (.iload 9, 2) := by decide +kernel
theorem dL_areSums_242 : decode cL_areSums 242 = .ok (.iconst 0, 1) := by decide +kernel
theorem dL_areSums_243 : decode cL_areSums 243 = .ok (.invokevirtual 32, 3) := by decide +kernel
theorem dL_areSums_246 : decode cL_areSums 246 = .ok (.aload_n 0, 1) := by decide +kernel
theorem dL_areSums_247 : decode cL_areSums 247 = .ok (.iload 9, 2) := by decide +kernel
theorem dL_areSums_249 : decode cL_areSums 249 = .ok (.iconst 4, 1) := by decide +kernel
theorem dL_areSums_250 : decode cL_areSums 250 = .ok (.invokevirtual 32, 3) := by decide +kernel
theorem dL_areSums_253 : decode cL_areSums 253 = .ok (.if_icmp .ge 10, 3) := by decide +kernel
theorem dL_areSums_256 : decode cL_areSums 256 = .ok (.iconst 1, 1) := by decide +kernel
theorem dL_areSums_257 : decode cL_areSums 257 = .ok (.iload 9, 2) := by decide +kernel
theorem dL_areSums_259 : decode cL_areSums 259 = .ok (.ishl, 1) := by decide +kernel
theorem dL_areSums_260 : decode cL_areSums 260 = .ok (.goto 4, 3) := by decide +kernel
theorem dL_areSums_263 : decode cL_areSums 263 = .ok (.iconst 0, 1) := by decide +kernel
theorem dL_areSums_264 : decode cL_areSums 264 = .ok (.ior, 1) := by decide +kernel
theorem dL_areSums_265 : decode cL_areSums 265 = .ok (.istore 7, 2) := by decide +kernel
theorem dL_areSums_267 : decode cL_areSums 267 = .ok (.iload 10, 2) := by decide +kernel
theorem dL_areSums_269 : decode cL_areSums 269 = .ok (.bipush (-6), 2) := by decide +kernel
theorem dL_areSums_271 : decode cL_areSums 271 = .ok (.if_icmp .eq 15, 3) := by decide +kernel
theorem dL_areSums_274 : decode cL_areSums 274 = .ok (.aload_n 0, 1) := by decide +kernel
theorem dL_areSums_275 : decode cL_areSums 275 = .ok (.iload 10, 2) := by decide +kernel
theorem dL_areSums_277 : decode cL_areSums 277 = .ok (.iconst 2, 1) := by decide +kernel
theorem dL_areSums_278 : decode cL_areSums 278 = .ok (.invokevirtual 23, 3) := by decide +kernel
theorem dL_areSums_281 : decode cL_areSums 281 = .ok (.iload 9, 2) := by decide +kernel
theorem dL_areSums_283 : decode cL_areSums 283 = .ok (.if_icmp .ne 7, 3) := by decide +kernel
theorem dL_areSums_286 : decode cL_areSums 286 = .ok (.iconst 1, 1) := by decide +kernel
theorem dL_areSums_287 : decode cL_areSums 287 = .ok (.goto 4, 3) := by decide +kernel
theorem dL_areSums_290 : decode cL_areSums 290 = .ok (.iconst 0, 1) := by decide +kernel
theorem dL_areSums_291 : decode cL_areSums 291 = .ok (.istore 8, 2) := by decide +kernel
theorem dL_areSums_293 : decode cL_areSums 293 = .ok (.iinc 9 1, 3) := by decide +kernel
theorem dL_areSums_296 : decode cL_areSums 296 = .ok (.goto (-102), 3) := by decide +kernel
theorem dL_areSums_299 : decode cL_areSums 299 = .ok (.iload 8, 2) := by decide +kernel
theorem dL_areSums_301 : decode cL_areSums 301 = .ok (.ifCond .eq 86, 3) := by decide +kernel
theorem dL_areSums_304 : decode cL_areSums 304 = .ok (.iload_n 1, 1) := by decide +kernel
theorem dL_areSums_305 : decode cL_areSums 305 = .ok (.aload_n 0, 1) := by decide +kernel
theorem dL_areSums_306 : decode cL_areSums 306 = .ok (.iconst 4, 1) := by decide +kernel
theorem dL_areSums_307 : decode cL_areSums 307 = .ok (.invokevirtual 19, 3) := by decide +kernel
theorem dL_areSums_310 : decode cL_areSums 310 = .ok (.if_icmp .ne 77, 3) := by decide +kernel
theorem dL_areSums_313 : decode cL_areSums 313 = .ok (.iload_n 2, 1) := by decide +kernel
theorem dL_areSums_314 : decode cL_areSums 314 = .ok (.iload_n 1, 1) := by decide +kernel
theorem dL_areSums_315 : decode cL_areSums 315 = .ok (.if_icmp .ne 72, 3) := by decide +kernel
theorem dL_areSums_318 : decode cL_areSums 318 = .ok (.iload_n 3, 1) := by decide +kernel
theorem dL_areSums_319 : decode cL_areSums 319 = .ok (.iload_n 1, 1) := by decide +kernel
theorem dL_areSums_320 : decode cL_areSums 320 = .ok (.if_icmp .ne 67, 3) := by decide +kernel
theorem dL_areSums_323 : decode cL_areSums 323 = .ok (.iload 4, 2) := by decide +kernel
theorem dL_areSums_325 : decode cL_areSums 325 = .ok (.iload 5, 2) := by decide +kernel
theorem dL_areSums_327 : decode cL_areSums 327 = .ok (.if_icmp .ne 60, 3) := by decide +kernel
theorem dL_areSums_330 : decode cL_areSums 330 = .ok (.iload 6, 2) := by decide +kernel
theorem dL_areSums_332 : decode cL_areSums 332 = .ok (.aload_n 0, 1) := by decide +kernel
theorem dL_areSums_333 : decode cL_areSums 333 = .ok (.iconst 5, 1) := by decide +kernel
theorem dL_areSums_334 : decode cL_areSums 334 = .ok (.invokevirtual 19, 3) := by decide +kernel
theorem dL_areSums_337 : decode cL_areSums 337 = .ok (.if_icmp .ne 50, 3) := by decide +kernel
theorem dL_areSums_340 : decode cL_areSums 340 = .ok (.iload 7, 2) := by decide +kernel
theorem dL_areSums_342 : decode cL_areSums 342 = .ok (.aload_n 0, 1) := by decide +kernel
theorem dL_areSums_343 : decode cL_areSums 343 = .ok (.invokevirtual 35, 3) := by decide +kernel
theorem dL_areSums_346 : decode cL_areSums 346 = .ok (.if_icmp .ne 41, 3) := by decide +kernel
theorem dL_areSums_349 : decode cL_areSums 349 = .ok (.aload_n 0, 1) := by decide +kernel
theorem dL_areSums_350 : decode cL_areSums 350 = .ok (.iconst 2, 1) := by decide +kernel
theorem dL_areSums_351 : decode cL_areSums 351 = .ok (.invokevirtual 19, 3) := by decide +kernel
theorem dL_areSums_354 : decode cL_areSums 354 = .ok (.aload_n 0, 1) := by decide +kernel
theorem dL_areSums_355 : decode cL_areSums 355 = .ok (.iconst 3, 1) := by decide +kernel
theorem dL_areSums_356 : decode cL_areSums 356 = .ok (.invokevirtual 19, 3) := by decide +kernel
theorem dL_areSums_359 : decode cL_areSums 359 = .ok (.aload_n 0, 1) := by decide +kernel
theorem dL_areSums_360 : decode cL_areSums 360 = .ok (.iconst 4, 1) := by decide +kernel
theorem dL_areSums_361 : decode cL_areSums 361 = .ok (.invokevirtual 19, 3) := by decide +kernel
theorem dL_areSums_364 : decode cL_areSums 364 = .ok (.iadd, 1) := by decide +kernel
theorem dL_areSums_365 : decode cL_areSums 365 = .ok (.if_icmp .ne 22, 3) := by decide +kernel
theorem dL_areSums_368 : decode cL_areSums 368 = .ok (.aload_n 0, 1) := by decide +kernel
theorem dL_areSums_369 : decode cL_areSums 369 = .ok (.invokevirtual 39, 3) := by decide +kernel
theorem dL_areSums_372 : decode cL_areSums 372 = .ok (.ifCond .lt 15, 3) := by decide +kernel
theorem dL_areSums_375 : decode cL_areSums 375 = .ok (.aload_n 0, 1) := by decide +kernel
theorem dL_areSums_376 : decode cL_areSums 376 = .ok (.invokevirtual 39, 3) := by decide +kernel
theorem dL_areSums_379 : decode cL_areSums 379 = .ok (.iconst 4, 1) := by decide +kernel
theorem dL_areSums_380 : decode cL_areSums 380 = .ok (.if_icmp .ge 7, 3) := by decide +kernel
theorem dL_areSums_383 : decode cL_areSums 383 = .ok (.iconst 1, 1) := by decide +kernel
theorem dL_areSums_384 : decode cL_areSums 384 = .ok (.goto 4, 3) := by decide +kernel
theorem dL_areSums_387 : decode cL_areSums 387 = .ok (.iconst 0, 1) := by decide +kernel
theorem dL_areSums_388 : decode cL_areSums 388 = .ok (.ireturn, 1) := by decide +kernel
theorem dL_isNeeded_0 : decode cL_isNeeded 0 = .ok (.aload_n 0, 1) := by decide +kernel
theorem dL_isNeeded_1 : decode cL_isNeeded 1 = .ok (.iconst 1, 1) := by decide +kernel
theorem dL_isNeeded_2 : decode cL_isNeeded 2 = .ok (.invokevirtual 42, 3) := by decide +kernel
theorem dL_isNeeded_5 : decode cL_isNeeded 5 = .ok (.istore_n 1, 1) := by decide +kernel
theorem dL_isNeeded_6 : decode cL_isNeeded 6 = .ok (.iload_n 1, 1) := by decide +kernel
theorem dL_isNeeded_7 : decode cL_isNeeded 7 = .ok (.ifCond .ge 25, 3) := by decide +kernel
theorem dL_isNeeded_10 : decode cL_isNeeded 10 = .ok (.iload_n 1, 1) := by decide +kernel
theorem dL_isNeeded_11 : decode cL_isNeeded 11 = .ok (.bipush (-6), 2) := by decide +kernel
theorem dL_isNeeded_13 : decode cL_isNeeded 13 = .ok (.if_icmp .ne 17, 3) := by decide +kernel
theorem dL_isNeeded_16 : decode cL_isNeeded 16 = .ok (.aload_n 0, 1) := by decide +kernel
theorem dL_isNeeded_17 : decode cL_isNeeded 17 = .ok (.iconst 4, 1) := by decide +kernel
theorem dL_isNeeded_18 : decode cL_isNeeded 18 = .ok (.invokevirtual 42, 3) := by decide +kernel
theorem dL_isNeeded_21 : decode cL_isNeeded 21 = .ok (.bipush (-6), 2) := by decide +kernel
theorem dL_isNeeded_23 : decode cL_isNeeded 23 = .ok (.if_icmp .ne 7, 3) := by decide +kernel
theorem dL_isNeeded_26 : decode cL_isNeeded 26 = .ok (.iconst 1, 1) := by decide +kernel
theorem dL_isNeeded_27 : decode cL_isNeeded 27 = .ok (.goto 4, 3) := by decide +kernel
theorem dL_isNeeded_30 : decode cL_isNeeded 30 = .ok (.iconst 0, 1) := by decide +kernel
theorem dL_isNeeded_31 : decode cL_isNeeded 31 = .ok (.ireturn, 1) := by decide +kernel
theorem dL_isNeeded_32 : decode cL_isNeeded 32 = .ok (.aload_n 0, 1) := by decide +kernel
theorem dL_isNeeded_33 : decode cL_isNeeded 33 = .ok (.iconst 0, 1) := by decide +kernel
theorem dL_isNeeded_34 : decode cL_isNeeded 34 = .ok (.invokevirtual 42, 3) := by decide +kernel
theorem dL_isNeeded_37 : decode cL_isNeeded 37 = .ok (.istore_n 2, 1) := by decide +kernel
theorem dL_isNeeded_38 : decode cL_isNeeded 38 = .ok (.aload_n 0, 1) := by decide +kernel
theorem dL_isNeeded_39 : decode cL_isNeeded 39 = .ok (.iconst 2, 1) := by decide +kernel
theorem dL_isNeeded_40 : decode cL_isNeeded 40 = .ok (.invokevirtual 42, 3) := by decide +kernel
theorem dL_isNeeded_43 : decode cL_isNeeded 43 = .ok (.istore_n 3, 1) := by decide +kernel
theorem dL_isNeeded_44 : decode cL_isNeeded 44 = .ok (.aload_n 0, 1) := by decide +kernel
theorem dL_isNeeded_45 : decode cL_isNeeded 45 = .ok (.iload_n 2, 1) := by decide +kernel
theorem dL_isNeeded_46 : decode cL_isNeeded 46 = .ok (.iload_n 1, 1) := by decide +kernel
theorem dL_isNeeded_47 : decode cL_isNeeded 47 = .ok (.iload_n 3, 1) := by decide +kernel
theorem dL_isNeeded_48 : decode cL_isNeeded 48 = .ok (.iconst 1, 1) := by decide +kernel
theorem dL_isNeeded_49 : decode cL_isNeeded 49 = .ok (.invokevirtual 15, 3) := by decide +kernel
theorem dL_isNeeded_52 : decode cL_isNeeded 52 = .ok (.istore 4, 2) := by decide +kernel
theorem dL_isNeeded_54 : decode cL_isNeeded 54 = .ok (.iload_n 1, 1) := by decide +kernel
theorem dL_isNeeded_55 : decode cL_isNeeded 55 = .ok (.aload_n 0, 1) := by decide +kernel
theorem dL_isNeeded_56 : decode cL_isNeeded 56 = .ok (.iconst 0, 1) := by decide +kernel
theorem dL_isNeeded_57 : decode cL_isNeeded 57 = .ok (.invokevirtual 19, 3) := by decide +kernel
theorem dL_isNeeded_60 : decode cL_isNeeded 60 = .ok (.if_icmp .lt 77, 3) := by decide +kernel
theorem dL_isNeeded_63 : decode cL_isNeeded 63 = .ok (.aload_n 0, 1) := by decide +kernel
theorem dL_isNeeded_64 : decode cL_isNeeded 64 = .ok (.iconst 3, 1) := by decide +kernel
theorem dL_isNeeded_65 : decode cL_isNeeded 65 = .ok (.invokevirtual 42, 3) := by decide +kernel
theorem dL_isNeeded_68 : decode cL_isNeeded 68 = .ok (.aload_n 0, 1) := by decide +kernel
theorem dL_isNeeded_69 : decode cL_isNeeded 69 = .ok (.iload_n 2, 1) := by decide +kernel
theorem dL_isNeeded_70 : decode cL_isNeeded 70 = .ok (.iload_n 1, 1) := by decide +kernel
theorem dL_isNeeded_71 : decode cL_isNeeded 71 = .ok (.iload_n 3, 1) := by decide +kernel
theorem dL_isNeeded_72 : decode cL_isNeeded 72 = .ok (.iconst 2, 1) := by decide +kernel
theorem dL_isNeeded_73 : decode cL_isNeeded 73 = .ok (.invokevirtual 15, 3) := by decide +kernel
theorem dL_isNeeded_76 : decode cL_isNeeded 76 = .ok (.if_icmp .ne 61, 3) := by decide +kernel
theorem dL_isNeeded_79 : decode cL_isNeeded 79 = .ok (.aload_n 0, 1) := by decide +kernel
theorem dL_isNeeded_80 : decode cL_isNeeded 80 = .ok (.iconst 3, 1) := by decide +kernel
theorem dL_isNeeded_81 : decode cL_isNeeded 81 = .ok (.invokevirtual 42, 3) := by decide +kernel
theorem dL_isNeeded_84 : decode cL_isNeeded 84 = .ok (.ifCond .le 53, 3) := by decide +kernel
theorem dL_isNeeded_87 : decode cL_isNeeded 87 = .ok (.aload_n 0, 1) := by decide +kernel
theorem dL_isNeeded_88 : decode cL_isNeeded 88 = .ok (.iconst 4, 1) := by decide +kernel
theorem dL_isNeeded_89 : decode cL_isNeeded 89 = .ok (.invokevirtual 42, 3) := by decide +kernel
theorem dL_isNeeded_92 : decode cL_isNeeded 92 = .ok (.aload_n 0, 1) := by decide +kernel
theorem dL_isNeeded_93 : decode cL_isNeeded 93 = .ok (.bipush 7, 2) := by decide +kernel
theorem dL_isNeeded_95 : decode cL_isNeeded 95 = .ok (.invokevirtual 19, 3) := by decide +kernel
theorem dL_isNeeded_98 : decode cL_isNeeded 98 = .ok (.iload 4, 2) := by decide +kernel
theorem dL_isNeeded_100 : decode cL_isNeeded 100 = .ok (.isub, 1) := by decide +kernel
theorem dL_isNeeded_101 : decode cL_isNeeded 101 = .ok (.if_icmp .ne 36, 3) := by decide +kernel
theorem dL_isNeeded_104 : decode cL_isNeeded 104 = .ok (.aload_n 0, 1) := by decide +kernel
theorem dL_isNeeded_105 : decode cL_isNeeded 105 = .ok (.iconst 4, 1) := by decide +kernel
theorem dL_isNeeded_106 : decode cL_isNeeded 106 = .ok (.invokevirtual 42, 3) := by decide +kernel
theorem dL_isNeeded_109 : decode cL_isNeeded 109 = .ok (.ifCond .le 28, 3) := by decide +kernel
theorem dL_isNeeded_112 : decode cL_isNeeded 112 = .ok (.iload 4, 2) := by decide +kernel
theorem dL_isNeeded_114 : decode cL_isNeeded 114 = .ok (.ifCond .eq 19, 3) := by decide +kernel
theorem dL_isNeeded_117 : decode cL_isNeeded 117 = .ok (.aload_n 0, 1) := by decide +kernel
theorem dL_isNeeded_118 : decode cL_isNeeded 118 = .ok (.iload_n 2, 1) := by decide +kernel
theorem dL_isNeeded_119 : decode cL_isNeeded 119 = .ok (.iload_n 1, 1) := by decide +kernel
theorem dL_isNeeded_120 : decode cL_isNeeded 120 = .ok (.iload_n 3, 1) := by decide +kernel
theorem dL_isNeeded_121 : decode cL_isNeeded 121 = .ok (.iconst 0, 1) := by decide +kernel
theorem dL_isNeeded_122 : decode cL_isNeeded 122 = .ok (.invokevirtual 15, 3) := by decide +kernel
theorem dL_isNeeded_125 : decode cL_isNeeded 125 = .ok (.aload_n 0, 1) := by decide +kernel
theorem dL_isNeeded_126 : decode cL_isNeeded 126 = .ok (.iconst 3, 1) := by decide +kernel
theorem dL_isNeeded_127 : decode cL_isNeeded 127 = .ok (.invokevirtual 42, 3) := by decide +kernel
theorem dL_isNeeded_130 : decode cL_isNeeded 130 = .ok (.if_icmp .ne 7, 3) := by decide +kernel
theorem dL_isNeeded_133 : decode cL_isNeeded 133 = .ok (.iconst 1, 1) := by decide +kernel
theorem dL_isNeeded_134 : decode cL_isNeeded 134 = .ok (.goto 4, 3) := by decide +kernel
theorem dL_isNeeded_137 : decode cL_isNeeded 137 = .ok (.iconst 0, 1) := by decide +kernel
theorem dL_isNeeded_138 : decode cL_isNeeded 138 = .ok (.istore 5, 2) := by decide +kernel
theorem dL_isNeeded_140 : decode cL_isNeeded 140 = .ok (.iconst 0, 1) := by decide +kernel
theorem dL_isNeeded_141 : decode cL_isNeeded 141 = .ok (.istore 6, 2) := by decide +kernel
theorem dL_isNeeded_143 : decode cL_isNeeded 143 = .ok (.iload 6, 2) := by decide +kernel
theorem dL_isNeeded_145 : decode cL_isNeeded 145 = .ok (.sipush 160, 3) := by decide +kernel
theorem dL_isNeeded_148 : decode cL_isNeeded 148 = .ok (.if_icmp .ge 172, 3) := by decide +kernel
theorem dL_isNeeded_151 : decode cL_isNeeded 151 = .ok (.iload 5, 2) := by decide +kernel
theorem dL_isNeeded_153 : decode cL_isNeeded 153 = .ok (.ifCond .eq 167, 3) := by decide +kernel
theorem dL_isNeeded_156 : decode cL_isNeeded 156 = .ok (.iload 6, 2) := by decide +kernel
theorem dL_isNeeded_158 : decode cL_isNeeded 158 = .ok (.bipush 32, 2) := by decide +kernel
theorem dL_isNeeded_160 : decode cL_isNeeded 160 = .ok (.idiv, 1) := by decide +kernel
theorem dL_isNeeded_161 : decode cL_isNeeded 161 = .ok (.istore 7, 2) := by decide +kernel
theorem dL_isNeeded_163 : decode cL_isNeeded 163 = .ok (.iload 6, 2) := by decide +kernel
theorem dL_isNeeded_165 : decode cL_isNeeded 165 = .ok (.bipush 32, 2) := by decide +kernel
theorem dL_isNeeded_167 : decode cL_isNeeded 167 = .ok (.irem, 1) := by decide +kernel
theorem dL_isNeeded_168 : decode cL_isNeeded 168 = .ok (.bipush 8, 2) := by decide +kernel
theorem dL_isNeeded_170 : decode cL_isNeeded 170 = .ok (.idiv, 1) := by decide +kernel
theorem dL_isNeeded_171 : decode cL_isNeeded 171 = .ok (.istore 8, 2) := by decide +kernel
theorem dL_isNeeded_173 : decode cL_isNeeded 173 = .ok (.aload_n 0, 1) := by decide +kernel
theorem dL_isNeeded_174 : decode cL_isNeeded 174 = .ok (.iload 8, 2) := by decide +kernel
theorem dL_isNeeded_176 : decode cL_isNeeded 176 = .ok (.iload 7, 2) := by decide +kernel
theorem dL_isNeeded_178 : decode cL_isNeeded 178 = .ok (.iload 6, 2) := by decide +kernel
theorem dL_isNeeded_180 : decode cL_isNeeded 180 = .ok (.bipush 8, 2) := by decide +kernel
theorem dL_isNeeded_182 : decode cL_isNeeded 182 = .ok (.irem, 1) := by decide +kernel
theorem dL_isNeeded_183 : decode cL_isNeeded 183 = .ok (.iconst 0, 1) := by decide +kernel
theorem dL_isNeeded_184 : decode cL_isNeeded 184 = .ok (.invokevirtual 15, 3) := by decide +kernel
theorem dL_isNeeded_187 : decode cL_isNeeded 187 = .ok (.istore 9, 2) := by decide +kernel
theorem dL_isNeeded_189 : decode cL_isNeeded 189 = .ok (.aload_n 0, 1) := by decide +kernel
theorem dL_isNeeded_190 : decode cL_isNeeded 190 = .ok (.iload 8, 2) := by decide +kernel
theorem dL_isNeeded_192 : decode cL_isNeeded 192 = .ok (.iload 7, 2) := by decide +kernel
theorem dL_isNeeded_194 : decode cL_isNeeded 194 = .ok (.iload 6, 2) := by decide +kernel
theorem dL_isNeeded_196 : decode cL_isNeeded 196 = .ok (.bipush 8, 2) := by decide +kernel
theorem dL_isNeeded_198 : decode cL_isNeeded 198 = .ok (.irem, 1) := by decide +kernel
theorem dL_isNeeded_199 : decode cL_isNeeded 199 = .ok (.iconst 2, 1) := by decide +kernel
theorem dL_isNeeded_200 : decode cL_isNeeded 200 = .ok (.invokevirtual 15, 3) := by decide +kernel
theorem dL_isNeeded_203 : decode cL_isNeeded 203 = .ok (.istore 10, 2) := by decide +kernel
theorem dL_isNeeded_205 : decode cL_isNeeded 205 = .ok (.aload_n 0, 1) := by decide +kernel
theorem dL_isNeeded_206 : decode cL_isNeeded 206 = .ok (.iload 8, 2) := by decide +kernel
theorem dL_isNeeded_208 : decode cL_isNeeded 208 = .ok (.iload 7, 2) := by decide +kernel
theorem dL_isNeeded_210 : decode cL_isNeeded 210 = .ok (.iload 6, 2) := by decide +kernel
theorem dL_isNeeded_212 : decode cL_isNeeded 212 = .ok (.bipush 8, 2) := by decide +kernel
theorem dL_isNeeded_214 : decode cL_isNeeded 214 = .ok (.irem, 1) := by decide +kernel
theorem dL_isNeeded_215 : decode cL_isNeeded 215 = .ok (.iconst 1, 1) := by decide +kernel
theorem dL_isNeeded_216 : decode cL_isNeeded 216 = .ok (.invokevirtual 15, 3) := by decide +kernel
theorem dL_isNeeded_219 : decode cL_isNeeded 219 = .ok (.istore 11, 2) := by decide +kernel
theorem dL_isNeeded_221 : decode cL_isNeeded 221 = .ok (.iload 7, 2) := by decide +kernel
theorem dL_isNeeded_223 : decode cL_isNeeded 223 = .ok (.aload_n 0, 1) := by decide +kernel
theorem dL_isNeeded_224 : decode cL_isNeeded 224 = .ok (.iconst 0, 1) := by decide +kernel
theorem dL_isNeeded_225 : decode cL_isNeeded 225 = .ok (.invokevirtual 19, 3) := by decide +kernel
theorem dL_isNeeded_228 : decode cL_isNeeded 228 = .ok (.if_icmp .lt 24, 3) := by decide +kernel
theorem dL_isNeeded_231 : decode cL_isNeeded 231 = .ok (.iload 10, 2) := by decide +kernel
theorem dL_isNeeded_233 : decode cL_isNeeded 233 = .ok (.ifCond .le 19, 3) := by decide +kernel
theorem dL_isNeeded_236 : decode cL_isNeeded 236 = .ok (.iload 11, 2) := by decide +kernel
theorem dL_isNeeded_238 : decode cL_isNeeded 238 = .ok (.ifCond .eq 10, 3) := by decide +kernel
theorem dL_isNeeded_241 : decode cL_isNeeded 241 = .ok (.iload 9, 2) := by decide +kernel
theorem dL_isNeeded_243 : decode cL_isNeeded 243 = .ok (.iload 10, 2) := by decide +kernel
theorem dL_isNeeded_245 : decode cL_isNeeded 245 = .ok (.if_icmp .ne 7, 3) := by decide +kernel
theorem dL_isNeeded_248 : decode cL_isNeeded 248 = .ok (.iconst 1, 1) := by decide +kernel
theorem dL_isNeeded_249 : decode cL_isNeeded 249 = .ok (.goto 4, 3) := by decide +kernel
theorem dL_isNeeded_252 : decode cL_isNeeded 252 = .ok (.iconst 0, 1) := by decide +kernel
theorem dL_isNeeded_253 : decode cL_isNeeded 253 = .ok (.istore 12, 2) := by decide +kernel
theorem dL_isNeeded_255 : decode cL_isNeeded 255 = .ok (.iload 12, 2) := by decide +kernel
theorem dL_isNeeded_257 : decode cL_isNeeded 257 = .ok (.ifCond .eq 50, 3) := by decide +kernel
theorem dL_isNeeded_260 : decode cL_isNeeded 260 = .ok (.iload 11, 2) := by decide +kernel
theorem dL_isNeeded_262 : decode cL_isNeeded 262 = .ok (.iload 4, 2) := by decide +kernel
theorem dL_isNeeded_264 : decode cL_isNeeded 264 = .ok (.if_icmp .gt 43, 3) := by decide +kernel
theorem dL_isNeeded_267 : decode cL_isNeeded 267 = .ok (.iload 11, 2) := by decide +kernel
theorem dL_isNeeded_269 : decode cL_isNeeded 269 = .ok (.iload 4, 2) := by decide +kernel
theorem dL_isNeeded_271 : decode cL_isNeeded 271 = .ok (.if_icmp .ne 40, 3) := by decide +kernel
theorem dL_isNeeded_274 : decode cL_isNeeded 274 = .ok (.iload 7, 2) := by decide +kernel
theorem dL_isNeeded_276 : decode cL_isNeeded 276 = .ok (.iload_n 1, 1) := by decide +kernel
theorem dL_isNeeded_277 : decode cL_isNeeded 277 = .ok (.if_icmp .gt 30, 3) := by decide +kernel
theorem dL_isNeeded_280 : decode cL_isNeeded 280 = .ok (.iload 7, 2) := by decide +kernel
theorem dL_isNeeded_282 : decode cL_isNeeded 282 = .ok (.iload_n 1, 1) := by decide +kernel
theorem dL_isNeeded_283 : decode cL_isNeeded 283 = .ok (.if_icmp .ne 28, 3) := by decide +kernel
theorem dL_isNeeded_286 : decode cL_isNeeded 286 = .ok (.iload 8, 2) := by decide +kernel
theorem dL_isNeeded_288 : decode cL_isNeeded 288 = .ok (.iload_n 2, 1) := by decide +kernel
theorem dL_isNeeded_289 : decode cL_isNeeded 289 = .ok (.if_icmp .gt 18, 3) := by decide +kernel
theorem dL_isNeeded_292 : decode cL_isNeeded 292 = .ok (.iload 8, 2) := by decide +kernel
theorem dL_isNeeded_294 : decode cL_isNeeded 294 = .ok (.iload_n 2, 1) := by decide +kernel
theorem dL_isNeeded_295 : decode cL_isNeeded 295 = .ok (.if_icmp .ne 16, 3) := by decide +kernel
theorem dL_isNeeded_298 : decode cL_isNeeded 298 = .ok (.iload 6, 2) := by decide +kernel
theorem dL_isNeeded_300 : decode cL_isNeeded 300 = .ok (.bipush 8, 2) := by decide +kernel
theorem dL_isNeeded_302 : decode cL_isNeeded 302 = .ok (.irem, 1) := by decide +kernel
theorem dL_isNeeded_303 : decode cL_isNeeded 303 = .ok (.iload_n 3, 1) := by decide +kernel
theorem dL_isNeeded_304 : decode cL_isNeeded 304 = .ok (.if_icmp .lt 7, 3) := by decide +kernel
theorem dL_isNeeded_307 : decode cL_isNeeded 307 = .ok (.iconst 1, 1) := by decide +kernel
theorem dL_isNeeded_308 : decode cL_isNeeded 308 = .ok (.goto 4, 3) := by decide +kernel
theorem dL_isNeeded_311 : decode cL_isNeeded 311 = .ok (.iconst 0, 1) := by decide +kernel
theorem dL_isNeeded_312 : decode cL_isNeeded 312 = .ok (.istore 5, 2) := by decide +kernel
theorem dL_isNeeded_314 : decode cL_isNeeded 314 = .ok (.iinc 6 1, 3) := by decide +kernel
theorem dL_isNeeded_317 : decode cL_isNeeded 317 = .ok (.goto (-174), 3) := by decide +kernel
theorem dL_isNeeded_320 : decode cL_isNeeded 320 = .ok (.iload 5, 2) := by decide +kernel
theorem dL_isNeeded_322 : decode cL_isNeeded 322 = .ok (.ireturn, 1) := by decide +kernel
theorem dL_acts_0 : decode cL_acts 0 = .ok (.iload_n 1, 1) := by decide +kernel
theorem dL_acts_1 : decode cL_acts 1 = .ok (.iconst 4, 1) := by decide +kernel
theorem dL_acts_2 : decode cL_acts 2 = .ok (.ishr, 1) := by decide +kernel
theorem dL_acts_3 : decode cL_acts 3 = .ok (.iconst 4, 1) := by decide +kernel
theorem dL_acts_4 : decode cL_acts 4 = .ok (.irem, 1) := by decide +kernel
theorem dL_acts_5 : decode cL_acts 5 = .ok (.istore_n 2, 1) := by decide +kernel
theorem dL_acts_6 : decode cL_acts 6 = .ok (.iload_n 1, 1) := by decide +kernel
theorem dL_acts_7 : decode cL_acts 7 = .ok (.bipush 6, 2) := by decide +kernel
theorem dL_acts_9 : decode cL_acts 9 = .ok (.ishr, 1) := by decide +kernel
theorem dL_acts_10 : decode cL_acts 10 = .ok (.iconst 5, 1) := by decide +kernel
theorem dL_acts_11 : decode cL_acts 11 = .ok (.irem, 1) := by decide +kernel
theorem dL_acts_12 : decode cL_acts 12 = .ok (.istore_n 3, 1) := by decide +kernel
theorem dL_acts_13 : decode cL_acts 13 = .ok (.iload_n 1, 1) := by decide +kernel
theorem dL_acts_14 : decode cL_acts 14 = .ok (.bipush 9, 2) := by decide +kernel
theorem dL_acts_16 : decode cL_acts 16 = .ok (.ishr, 1) := by decide +kernel
theorem dL_acts_17 : decode cL_acts 17 = .ok (.bipush 8, 2) := by decide +kernel
theorem dL_acts_19 : decode cL_acts 19 = .ok (.irem, 1) := by decide +kernel
theorem dL_acts_20 : decode cL_acts 20 = .ok (.istore 4, 2) := by decide +kernel
theorem dL_acts_22 : decode cL_acts 22 = .ok (.aload_n 0, 1) := by decide +kernel
theorem dL_acts_23 : decode cL_acts 23 = .ok (.iload_n 2, 1) := by decide +kernel
theorem dL_acts_24 : decode cL_acts 24 = .ok (.iconst 2, 1) := by decide +kernel
theorem dL_acts_25 : decode cL_acts 25 = .ok (.invokevirtual 23, 3) := by decide +kernel
theorem dL_acts_28 : decode cL_acts 28 = .ok (.istore 5, 2) := by decide +kernel
theorem dL_acts_30 : decode cL_acts 30 = .ok (.aload_n 0, 1) := by decide +kernel
theorem dL_acts_31 : decode cL_acts 31 = .ok (.iload_n 2, 1) := by decide +kernel
theorem dL_acts_32 : decode cL_acts 32 = .ok (.iload_n 3, 1) := by decide +kernel
theorem dL_acts_33 : decode cL_acts 33 = .ok (.iload 4, 2) := by decide +kernel
theorem dL_acts_35 : decode cL_acts 35 = .ok (.iconst 0, 1) := by decide +kernel
theorem dL_acts_36 : decode cL_acts 36 = .ok (.invokevirtual 15, 3) := by decide +kernel
theorem dL_acts_39 : decode cL_acts 39 = .ok (.istore 6, 2) := by decide +kernel
theorem dL_acts_41 : decode cL_acts 41 = .ok (.aload_n 0, 1) := by decide +kernel
theorem dL_acts_42 : decode cL_acts 42 = .ok (.iload_n 2, 1) := by decide +kernel
theorem dL_acts_43 : decode cL_acts 43 = .ok (.iload_n 3, 1) := by decide +kernel
theorem dL_acts_44 : decode cL_acts 44 = .ok (.iload 4, 2) := by decide +kernel
theorem dL_acts_46 : decode cL_acts 46 = .ok (.iconst 1, 1) := by decide +kernel
theorem dL_acts_47 : decode cL_acts 47 = .ok (.invokevirtual 15, 3) := by decide +kernel
theorem dL_acts_50 : decode cL_acts 50 = .ok (.istore 7, 2) := by decide +kernel
theorem dL_acts_52 : decode cL_acts 52 = .ok (.aload_n 0, 1) := by decide +kernel
theorem dL_acts_53 : decode cL_acts 53 = .ok (.iload_n 3, 1) := by decide +kernel
theorem dL_acts_54 : decode cL_acts 54 = .ok (.iconst 0, 1) := by decide +kernel
theorem dL_acts_55 : decode cL_acts 55 = .ok (.invokevirtual 9, 3) := by decide +kernel
theorem dL_acts_58 : decode cL_acts 58 = .ok (.ifCond .ne 7, 3) := by decide +kernel
theorem dL_acts_61 : decode cL_acts 61 = .ok (.iconst 1, 1) := by decide +kernel
theorem dL_acts_62 : decode cL_acts 62 = .ok (.goto 4, 3) := by decide +kernel
theorem dL_acts_65 : decode cL_acts 65 = .ok (.iconst 0, 1) := by decide +kernel
theorem dL_acts_66 : decode cL_acts 66 = .ok (.istore 8, 2) := by decide +kernel
theorem dL_acts_68 : decode cL_acts 68 = .ok (.aload_n 0, 1) := by decide +kernel
theorem dL_acts_69 : decode cL_acts 69 = .ok (.iconst 3, 1) := by decide +kernel
theorem dL_acts_70 : decode cL_acts 70 = .ok (.invokevirtual 19, 3) := by decide +kernel
theorem dL_acts_73 : decode cL_acts 73 = .ok (.istore 9, 2) := by decide +kernel
theorem dL_acts_75 : decode cL_acts 75 = .ok (.iload_n 1, 1) := by decide +kernel
theorem dL_acts_76 : decode cL_acts 76 = .ok (.bipush 10, 2) := by decide +kernel
theorem dL_acts_78 : decode cL_acts 78 = .ok (.irem, 1) := by decide +kernel
theorem dL_acts_79 : decode cL_acts 79 = .ok (.tableswitch 778 0 8 #[49, 130, 130, 130, 297, 370, 486, 622, 692], 49) := by decide +kernel
theorem dL_acts_128 : decode cL_acts 128 = .ok (.iconst 1, 1) := by decide +kernel
theorem dL_acts_129 : decode cL_acts 129 = .ok (.iload_n 1, 1) := by decide +kernel
theorem dL_acts_130 : decode cL_acts 130 = .ok (.bipush 12, 2) := by decide +kernel
theorem dL_acts_132 : decode cL_acts 132 = .ok (.ishr, 1) := by decide +kernel
theorem dL_acts_133 : decode cL_acts 133 = .ok (.bipush 6, 2) := by decide +kernel
theorem dL_acts_135 : decode cL_acts 135 = .ok (.irem, 1) := by decide +kernel
theorem dL_acts_136 : decode cL_acts 136 = .ok (.iadd, 1) := by decide +kernel
theorem dL_acts_137 : decode cL_acts 137 = .ok (.istore 10, 2) := by decide +kernel
theorem dL_acts_139 : decode cL_acts 139 = .ok (.aload_n 0, 1) := by decide +kernel
theorem dL_acts_140 : decode cL_acts 140 = .ok (.iload 10, 2) := by decide +kernel
theorem dL_acts_142 : decode cL_acts 142 = .ok (.iconst 1, 1) := by decide +kernel
theorem dL_acts_143 : decode cL_acts 143 = .ok (.invokevirtual 32, 3) := by decide +kernel
theorem dL_acts_146 : decode cL_acts 146 = .ok (.istore 11, 2) := by decide +kernel
theorem dL_acts_148 : decode cL_acts 148 = .ok (.aload_n 0, 1) := by decide +kernel
theorem dL_acts_149 : decode cL_acts 149 = .ok (.iload_n 2, 1) := by decide +kernel
theorem dL_acts_150 : decode cL_acts 150 = .ok (.iload 10, 2) := by decide +kernel
theorem dL_acts_152 : decode cL_acts 152 = .ok (.invokevirtual 45, 3) := by decide +kernel
theorem dL_acts_155 : decode cL_acts 155 = .ok (.istore 12, 2) := by decide +kernel
theorem dL_acts_157 : decode cL_acts 157 = .ok (.iload 11, 2) := by decide +kernel
theorem dL_acts_159 : decode cL_acts 159 = .ok (.bipush (-6), 2) := by decide +kernel
theorem dL_acts_161 : decode cL_acts 161 = .ok (.if_icmp .eq 24, 3) := by decide +kernel
theorem dL_acts_164 : decode cL_acts 164 = .ok (.iload 11, 2) := by decide +kernel
theorem dL_acts_166 : decode cL_acts 166 = .ok (.iload_n 2, 1) := by decide +kernel
theorem dL_acts_167 : decode cL_acts 167 = .ok (.if_icmp .eq 18, 3) := by decide +kernel
theorem dL_acts_170 : decode cL_acts 170 = .ok (.iload 12, 2) := by decide +kernel
theorem dL_acts_172 : decode cL_acts 172 = .ok (.bipush (-5), 2) := by decide +kernel
theorem dL_acts_174 : decode cL_acts 174 = .ok (.if_icmp .ne 7, 3) := by decide +kernel
theorem dL_acts_177 : decode cL_acts 177 = .ok (.iconst 1, 1) := by decide +kernel
theorem dL_acts_178 : decode cL_acts 178 = .ok (.goto 30, 3) := by decide +kernel
theorem dL_acts_181 : decode cL_acts 181 = .ok (.iconst 0, 1) := by decide +kernel
theorem dL_acts_182 : decode cL_acts 182 = .ok (.goto 26, 3) := by decide +kernel
theorem dL_acts_185 : decode cL_acts 185 = .ok (.iload 12, 2) := by decide +kernel
theorem dL_acts_187 : decode cL_acts 187 = .ok (.iload 5, 2) := by decide +kernel
theorem dL_acts_189 : decode cL_acts 189 = .ok (.if_icmp .ne 18, 3) := by decide +kernel
theorem dL_acts_192 : decode cL_acts 192 = .ok (.aload_n 0, 1) := by decide +kernel
theorem dL_acts_193 : decode cL_acts 193 = .ok (.iload 10, 2) := by decide +kernel
theorem dL_acts_195 : decode cL_acts 195 = .ok (.iconst 1, 1) := by decide +kernel
theorem dL_acts_196 : decode cL_acts 196 = .ok (.invokevirtual 32, 3) := by decide +kernel
theorem dL_acts_199 : decode cL_acts 199 = .ok (.iload_n 2, 1) := by decide +kernel
theorem dL_acts_200 : decode cL_acts 200 = .ok (.if_icmp .ne 7, 3) := by decide +kernel
theorem dL_acts_203 : decode cL_acts 203 = .ok (.iconst 1, 1) := by decide +kernel
theorem dL_acts_204 : decode cL_acts 204 = .ok (.goto 4, 3) := by decide +kernel
theorem dL_acts_207 : decode cL_acts 207 = .ok (.iconst 0, 1) := by decide +kernel
theorem dL_acts_208 : decode cL_acts 208 = .ok (.ireturn, 1) := by decide +kernel
theorem dL_acts_209 : decode cL_acts 209 = .ok (.iconst 1, 1) := by decide +kernel
theorem dL_acts_210 : decode cL_acts 210 = .ok (.iload_n 1, 1) := by decide +kernel
theorem dL_acts_211 : decode cL_acts 211 = .ok (.bipush 12, 2) := by decide +kernel
theorem dL_acts_213 : decode cL_acts 213 = .ok (.ishr, 1) := by decide +kernel
theorem dL_acts_214 : decode cL_acts 214 = .ok (.bipush 40, 2) := by decide +kernel
theorem dL_acts_216 : decode cL_acts 216 = .ok (.irem, 1) := by decide +kernel
theorem dL_acts_217 : decode cL_acts 217 = .ok (.iadd, 1) := by decide +kernel
theorem dL_acts_218 : decode cL_acts 218 = .ok (.istore 13, 2) := by decide +kernel
theorem dL_acts_220 : decode cL_acts 220 = .ok (.iload 5, 2) := by decide +kernel
theorem dL_acts_222 : decode cL_acts 222 = .ok (.ifCond .ne 7, 3) := by decide +kernel
theorem dL_acts_225 : decode cL_acts 225 = .ok (.iconst 0, 1) := by decide +kernel
theorem dL_acts_226 : decode cL_acts 226 = .ok (.goto 10, 3) := by decide +kernel
theorem dL_acts_229 : decode cL_acts 229 = .ok (.aload_n 0, 1) := by decide +kernel
theorem dL_acts_230 : decode cL_acts 230 = .ok (.iload 5, 2) := by decide +kernel
theorem dL_acts_232 : decode cL_acts 232 = .ok (.iconst 0, 1) := by decide +kernel
theorem dL_acts_233 : decode cL_acts 233 = .ok (.invokevirtual 32, 3) := by decide +kernel
theorem dL_acts_236 : decode cL_acts 236 = .ok (.istore 14, 2) := by decide +kernel
theorem dL_acts_238 : decode cL_acts 238 = .ok (.iload 5, 2) := by decide +kernel
theorem dL_acts_240 : decode cL_acts 240 = .ok (.ifCond .le 31, 3) := by decide +kernel
theorem dL_acts_243 : decode cL_acts 243 = .ok (.iload 8, 2) := by decide +kernel
theorem dL_acts_245 : decode cL_acts 245 = .ok (.ifCond .eq 26, 3) := by decide +kernel
theorem dL_acts_248 : decode cL_acts 248 = .ok (.iload 7, 2) := by decide +kernel
theorem dL_acts_250 : decode cL_acts 250 = .ok (.ifCond .eq 10, 3) := by decide +kernel
theorem dL_acts_253 : decode cL_acts 253 = .ok (.iload 6, 2) := by decide +kernel
theorem dL_acts_255 : decode cL_acts 255 = .ok (.iload 5, 2) := by decide +kernel
theorem dL_acts_257 : decode cL_acts 257 = .ok (.if_icmp .ne 14, 3) := by decide +kernel
theorem dL_acts_260 : decode cL_acts 260 = .ok (.iload 14, 2) := by decide +kernel
theorem dL_acts_262 : decode cL_acts 262 = .ok (.iload 13, 2) := by decide +kernel
theorem dL_acts_264 : decode cL_acts 264 = .ok (.if_icmp .lt 7, 3) := by decide +kernel
theorem dL_acts_267 : decode cL_acts 267 = .ok (.iconst 1, 1) := by decide +kernel
theorem dL_acts_268 : decode cL_acts 268 = .ok (.goto 4, 3) := by decide +kernel
theorem dL_acts_271 : decode cL_acts 271 = .ok (.iconst 0, 1) := by decide +kernel
theorem dL_acts_272 : decode cL_acts 272 = .ok (.istore 15, 2) := by decide +kernel
theorem dL_acts_274 : decode cL_acts 274 = .ok (.aload_n 0, 1) := by decide +kernel
theorem dL_acts_275 : decode cL_acts 275 = .ok (.iload_n 2, 1) := by decide +kernel
theorem dL_acts_276 : decode cL_acts 276 = .ok (.iload_n 3, 1) := by decide +kernel
theorem dL_acts_277 : decode cL_acts 277 = .ok (.iload 4, 2) := by decide +kernel
theorem dL_acts_279 : decode cL_acts 279 = .ok (.iload 13, 2) := by decide +kernel
theorem dL_acts_281 : decode cL_acts 281 = .ok (.invokevirtual 48, 3) := by decide +kernel
theorem dL_acts_284 : decode cL_acts 284 = .ok (.istore 16, 2) := by decide +kernel
theorem dL_acts_286 : decode cL_acts 286 = .ok (.iload 15, 2) := by decide +kernel
theorem dL_acts_288 : decode cL_acts 288 = .ok (.ifCond .ne 18, 3) := by decide +kernel
theorem dL_acts_291 : decode cL_acts 291 = .ok (.iload 16, 2) := by decide +kernel
theorem dL_acts_293 : decode cL_acts 293 = .ok (.bipush (-5), 2) := by decide +kernel
theorem dL_acts_295 : decode cL_acts 295 = .ok (.if_icmp .ne 7, 3) := by decide +kernel
theorem dL_acts_298 : decode cL_acts 298 = .ok (.iconst 1, 1) := by decide +kernel
theorem dL_acts_299 : decode cL_acts 299 = .ok (.goto 76, 3) := by decide +kernel
theorem dL_acts_302 : decode cL_acts 302 = .ok (.iconst 0, 1) := by decide +kernel
theorem dL_acts_303 : decode cL_acts 303 = .ok (.goto 72, 3) := by decide +kernel
theorem dL_acts_306 : decode cL_acts 306 = .ok (.iload 7, 2) := by decide +kernel
theorem dL_acts_308 : decode cL_acts 308 = .ok (.iload 13, 2) := by decide +kernel
theorem dL_acts_310 : decode cL_acts 310 = .ok (.iadd, 1) := by decide +kernel
theorem dL_acts_311 : decode cL_acts 311 = .ok (.bipush 99, 2) := by decide +kernel
theorem dL_acts_313 : decode cL_acts 313 = .ok (.if_icmp .le 18, 3) := by decide +kernel
theorem dL_acts_316 : decode cL_acts 316 = .ok (.iload 16, 2) := by decide +kernel
theorem dL_acts_318 : decode cL_acts 318 = .ok (.bipush (-4), 2) := by decide +kernel
theorem dL_acts_320 : decode cL_acts 320 = .ok (.if_icmp .ne 7, 3) := by decide +kernel
theorem dL_acts_323 : decode cL_acts 323 = .ok (.iconst 1, 1) := by decide +kernel
theorem dL_acts_324 : decode cL_acts 324 = .ok (.goto 51, 3) := by decide +kernel
theorem dL_acts_327 : decode cL_acts 327 = .ok (.iconst 0, 1) := by decide +kernel
theorem dL_acts_328 : decode cL_acts 328 = .ok (.goto 47, 3) := by decide +kernel
theorem dL_acts_331 : decode cL_acts 331 = .ok (.iload 16, 2) := by decide +kernel
theorem dL_acts_333 : decode cL_acts 333 = .ok (.iload 7, 2) := by decide +kernel
theorem dL_acts_335 : decode cL_acts 335 = .ok (.iload 13, 2) := by decide +kernel
theorem dL_acts_337 : decode cL_acts 337 = .ok (.iadd, 1) := by decide +kernel
theorem dL_acts_338 : decode cL_acts 338 = .ok (.if_icmp .ne 36, 3) := by decide +kernel
theorem dL_acts_341 : decode cL_acts 341 = .ok (.aload_n 0, 1) := by decide +kernel
theorem dL_acts_342 : decode cL_acts 342 = .ok (.iload_n 2, 1) := by decide +kernel
theorem dL_acts_343 : decode cL_acts 343 = .ok (.iload_n 3, 1) := by decide +kernel
theorem dL_acts_344 : decode cL_acts 344 = .ok (.iload 4, 2) := by decide +kernel
theorem dL_acts_346 : decode cL_acts 346 = .ok (.iconst 0, 1) := by decide +kernel
theorem dL_acts_347 : decode cL_acts 347 = .ok (.invokevirtual 15, 3) := by decide +kernel
theorem dL_acts_350 : decode cL_acts 350 = .ok (.iload 5, 2) := by decide +kernel
theorem dL_acts_352 : decode cL_acts 352 = .ok (.if_icmp .ne 22, 3) := by decide +kernel
theorem dL_acts_355 : decode cL_acts 355 = .ok (.aload_n 0, 1) := by decide +kernel
theorem dL_acts_356 : decode cL_acts 356 = .ok (.iload 5, 2) := by decide +kernel
theorem dL_acts_358 : decode cL_acts 358 = .ok (.iconst 0, 1) := by decide +kernel
theorem dL_acts_359 : decode cL_acts 359 = .ok (.invokevirtual 32, 3) := by decide +kernel
theorem dL_acts_362 : decode cL_acts 362 = .ok (.iload 14, 2) := by decide +kernel
theorem dL_acts_364 : decode cL_acts 364 = .ok (.iload 13, 2) := by decide +kernel
theorem dL_acts_366 : decode cL_acts 366 = .ok (.isub, 1) := by decide +kernel
theorem dL_acts_367 : decode cL_acts 367 = .ok (.if_icmp .ne 7, 3) := by decide +kernel
theorem dL_acts_370 : decode cL_acts 370 = .ok (.iconst 1, 1) := by decide +kernel
theorem dL_acts_371 : decode cL_acts 371 = .ok (.goto 4, 3) := by decide +kernel
theorem dL_acts_374 : decode cL_acts 374 = .ok (.iconst 0, 1) := by decide +kernel
theorem dL_acts_375 : decode cL_acts 375 = .ok (.ireturn, 1) := by decide +kernel
theorem dL_acts_376 : decode cL_acts 376 = .ok (.aload_n 0, 1) := by decide +kernel
theorem dL_acts_377 : decode cL_acts 377 = .ok (.iload_n 2, 1) := by decide +kernel
theorem dL_acts_378 : decode cL_acts 378 = .ok (.iload_n 3, 1) := by decide +kernel
theorem dL_acts_379 : decode cL_acts 379 = .ok (.iload 4, 2) := by decide +kernel
theorem dL_acts_381 : decode cL_acts 381 = .ok (.invokevirtual 51, 3) := by decide +kernel
theorem dL_acts_384 : decode cL_acts 384 = .ok (.istore 17, 2) := by decide +kernel
theorem dL_acts_386 : decode cL_acts 386 = .ok (.iload 8, 2) := by decide +kernel
theorem dL_acts_388 : decode cL_acts 388 = .ok (.ifCond .eq 8, 3) := by decide +kernel
theorem dL_acts_391 : decode cL_acts 391 = .ok (.iload 7, 2) := by decide +kernel
theorem dL_acts_393 : decode cL_acts 393 = .ok (.ifCond .ne 18, 3) := by decide +kernel
theorem dL_acts_396 : decode cL_acts 396 = .ok (.iload 17, 2) := by decide +kernel
theorem dL_acts_398 : decode cL_acts 398 = .ok (.bipush (-5), 2) := by decide +kernel
theorem dL_acts_400 : decode cL_acts 400 = .ok (.if_icmp .ne 7, 3) := by decide +kernel
theorem dL_acts_403 : decode cL_acts 403 = .ok (.iconst 1, 1) := by decide +kernel
theorem dL_acts_404 : decode cL_acts 404 = .ok (.goto 44, 3) := by decide +kernel
theorem dL_acts_407 : decode cL_acts 407 = .ok (.iconst 0, 1) := by decide +kernel
theorem dL_acts_408 : decode cL_acts 408 = .ok (.goto 40, 3) := by decide +kernel
theorem dL_acts_411 : decode cL_acts 411 = .ok (.iload 17, 2) := by decide +kernel
theorem dL_acts_413 : decode cL_acts 413 = .ok (.iload 7, 2) := by decide +kernel
theorem dL_acts_415 : decode cL_acts 415 = .ok (.if_icmp .ne 32, 3) := by decide +kernel
theorem dL_acts_418 : decode cL_acts 418 = .ok (.aload_n 0, 1) := by decide +kernel
theorem dL_acts_419 : decode cL_acts 419 = .ok (.iconst 3, 1) := by decide +kernel
theorem dL_acts_420 : decode cL_acts 420 = .ok (.invokevirtual 19, 3) := by decide +kernel
theorem dL_acts_423 : decode cL_acts 423 = .ok (.iload 9, 2) := by decide +kernel
theorem dL_acts_425 : decode cL_acts 425 = .ok (.iload 7, 2) := by decide +kernel
theorem dL_acts_427 : decode cL_acts 427 = .ok (.iadd, 1) := by decide +kernel
theorem dL_acts_428 : decode cL_acts 428 = .ok (.if_icmp .ne 19, 3) := by decide +kernel
theorem dL_acts_431 : decode cL_acts 431 = .ok (.aload_n 0, 1) := by decide +kernel
theorem dL_acts_432 : decode cL_acts 432 = .ok (.iload_n 2, 1) := by decide +kernel
theorem dL_acts_433 : decode cL_acts 433 = .ok (.iload_n 3, 1) := by decide +kernel
theorem dL_acts_434 : decode cL_acts 434 = .ok (.iload 4, 2) := by decide +kernel
theorem dL_acts_436 : decode cL_acts 436 = .ok (.iconst 0, 1) := by decide +kernel
theorem dL_acts_437 : decode cL_acts 437 = .ok (.invokevirtual 15, 3) := by decide +kernel
theorem dL_acts_440 : decode cL_acts 440 = .ok (.ifCond .ne 7, 3) := by decide +kernel
theorem dL_acts_443 : decode cL_acts 443 = .ok (.iconst 1, 1) := by decide +kernel
theorem dL_acts_444 : decode cL_acts 444 = .ok (.goto 4, 3) := by decide +kernel
theorem dL_acts_447 : decode cL_acts 447 = .ok (.iconst 0, 1) := by decide +kernel
theorem dL_acts_448 : decode cL_acts 448 = .ok (.ireturn, 1) := by decide +kernel
theorem dL_acts_449 : decode cL_acts 449 = .ok (.iload_n 1, 1) := by decide +kernel
theorem dL_acts_450 : decode cL_acts 450 = .ok (.bipush 6, 2) := by decide +kernel
theorem dL_acts_452 : decode cL_acts 452 = .ok (.ishr, 1) := by decide +kernel
theorem dL_acts_453 : decode cL_acts 453 = .ok (.iconst 2, 1) := by decide +kernel
theorem dL_acts_454 : decode cL_acts 454 = .ok (.irem, 1) := by decide +kernel
theorem dL_acts_455 : decode cL_acts 455 = .ok (.istore 18, 2) := by decide +kernel
theorem dL_acts_457 : decode cL_acts 457 = .ok (.aload_n 0, 1) := by decide +kernel
theorem dL_acts_458 : decode cL_acts 458 = .ok (.iload_n 2, 1) := by decide +kernel
theorem dL_acts_459 : decode cL_acts 459 = .ok (.iconst 0, 1) := by decide +kernel
theorem dL_acts_460 : decode cL_acts 460 = .ok (.invokevirtual 23, 3) := by decide +kernel
theorem dL_acts_463 : decode cL_acts 463 = .ok (.istore 19, 2) := by decide +kernel
theorem dL_acts_465 : decode cL_acts 465 = .ok (.aload_n 0, 1) := by decide +kernel
theorem dL_acts_466 : decode cL_acts 466 = .ok (.iload_n 2, 1) := by decide +kernel
theorem dL_acts_467 : decode cL_acts 467 = .ok (.iload 18, 2) := by decide +kernel
theorem dL_acts_469 : decode cL_acts 469 = .ok (.iconst 0, 1) := by decide +kernel
theorem dL_acts_470 : decode cL_acts 470 = .ok (.invokevirtual 55, 3) := by decide +kernel
theorem dL_acts_473 : decode cL_acts 473 = .ok (.istore 20, 2) := by decide +kernel
theorem dL_acts_475 : decode cL_acts 475 = .ok (.aload_n 0, 1) := by decide +kernel
theorem dL_acts_476 : decode cL_acts 476 = .ok (.iload_n 2, 1) := by decide +kernel
theorem dL_acts_477 : decode cL_acts 477 = .ok (.iconst 1, 1) := by decide +kernel
theorem dL_acts_478 : decode cL_acts 478 = .ok (.invokevirtual 23, 3) := by decide +kernel
theorem dL_acts_481 : decode cL_acts 481 = .ok (.istore 21, 2) := by decide +kernel
theorem dL_acts_483 : decode cL_acts 483 = .ok (.aload_n 0, 1) := by decide +kernel
theorem dL_acts_484 : decode cL_acts 484 = .ok (.iload_n 2, 1) := by decide +kernel
theorem dL_acts_485 : decode cL_acts 485 = .ok (.iload 18, 2) := by decide +kernel
theorem dL_acts_487 : decode cL_acts 487 = .ok (.iconst 1, 1) := by decide +kernel
theorem dL_acts_488 : decode cL_acts 488 = .ok (.invokevirtual 55, 3) := by decide +kernel
theorem dL_acts_491 : decode cL_acts 491 = .ok (.istore 22, 2) := by decide +kernel
theorem dL_acts_493 : decode cL_acts 493 = .ok (.aload_n 0, 1) := by decide +kernel
theorem dL_acts_494 : decode cL_acts 494 = .ok (.iload_n 2, 1) := by decide +kernel
theorem dL_acts_495 : decode cL_acts 495 = .ok (.iload 18, 2) := by decide +kernel
theorem dL_acts_497 : decode cL_acts 497 = .ok (.iconst 2, 1) := by decide +kernel
theorem dL_acts_498 : decode cL_acts 498 = .ok (.invokevirtual 55, 3) := by decide +kernel
theorem dL_acts_501 : decode cL_acts 501 = .ok (.istore 23, 2) := by decide +kernel
theorem dL_acts_503 : decode cL_acts 503 = .ok (.aload_n 0, 1) := by decide +kernel
theorem dL_acts_504 : decode cL_acts 504 = .ok (.iload_n 2, 1) := by decide +kernel
theorem dL_acts_505 : decode cL_acts 505 = .ok (.iload 18, 2) := by decide +kernel
theorem dL_acts_507 : decode cL_acts 507 = .ok (.invokevirtual 58, 3) := by decide +kernel
theorem dL_acts_510 : decode cL_acts 510 = .ok (.iload 20, 2) := by decide +kernel
theorem dL_acts_512 : decode cL_acts 512 = .ok (.if_icmp .ne 51, 3) := by decide +kernel
theorem dL_acts_515 : decode cL_acts 515 = .ok (.aload_n 0, 1) := by decide +kernel
theorem dL_acts_516 : decode cL_acts 516 = .ok (.iload_n 2, 1) := by decide +kernel
theorem dL_acts_517 : decode cL_acts 517 = .ok (.iconst 0, 1) := by decide +kernel
theorem dL_acts_518 : decode cL_acts 518 = .ok (.invokevirtual 23, 3) := by decide +kernel
theorem dL_acts_521 : decode cL_acts 521 = .ok (.iload 19, 2) := by decide +kernel
theorem dL_acts_523 : decode cL_acts 523 = .ok (.iload 20, 2) := by decide +kernel
theorem dL_acts_525 : decode cL_acts 525 = .ok (.isub, 1) := by decide +kernel
theorem dL_acts_526 : decode cL_acts 526 = .ok (.if_icmp .ne 37, 3) := by decide +kernel
theorem dL_acts_529 : decode cL_acts 529 = .ok (.aload_n 0, 1) := by decide +kernel
theorem dL_acts_530 : decode cL_acts 530 = .ok (.iconst 3, 1) := by decide +kernel
theorem dL_acts_531 : decode cL_acts 531 = .ok (.invokevirtual 19, 3) := by decide +kernel
theorem dL_acts_534 : decode cL_acts 534 = .ok (.iload 9, 2) := by decide +kernel
theorem dL_acts_536 : decode cL_acts 536 = .ok (.iload 20, 2) := by decide +kernel
theorem dL_acts_538 : decode cL_acts 538 = .ok (.iadd, 1) := by decide +kernel
theorem dL_acts_539 : decode cL_acts 539 = .ok (.if_icmp .ne 24, 3) := by decide +kernel
theorem dL_acts_542 : decode cL_acts 542 = .ok (.aload_n 0, 1) := by decide +kernel
theorem dL_acts_543 : decode cL_acts 543 = .ok (.iload_n 2, 1) := by decide +kernel
theorem dL_acts_544 : decode cL_acts 544 = .ok (.iconst 1, 1) := by decide +kernel
theorem dL_acts_545 : decode cL_acts 545 = .ok (.invokevirtual 23, 3) := by decide +kernel
theorem dL_acts_548 : decode cL_acts 548 = .ok (.iload 21, 2) := by decide +kernel
theorem dL_acts_550 : decode cL_acts 550 = .ok (.iload 22, 2) := by decide +kernel
theorem dL_acts_552 : decode cL_acts 552 = .ok (.iadd, 1) := by decide +kernel
theorem dL_acts_553 : decode cL_acts 553 = .ok (.iload 23, 2) := by decide +kernel
theorem dL_acts_555 : decode cL_acts 555 = .ok (.isub, 1) := by decide +kernel
theorem dL_acts_556 : decode cL_acts 556 = .ok (.if_icmp .ne 7, 3) := by decide +kernel
theorem dL_acts_559 : decode cL_acts 559 = .ok (.iconst 1, 1) := by decide +kernel
theorem dL_acts_560 : decode cL_acts 560 = .ok (.goto 4, 3) := by decide +kernel
theorem dL_acts_563 : decode cL_acts 563 = .ok (.iconst 0, 1) := by decide +kernel
theorem dL_acts_564 : decode cL_acts 564 = .ok (.ireturn, 1) := by decide +kernel
theorem dL_acts_565 : decode cL_acts 565 = .ok (.aload_n 0, 1) := by decide +kernel
theorem dL_acts_566 : decode cL_acts 566 = .ok (.iload_n 3, 1) := by decide +kernel
theorem dL_acts_567 : decode cL_acts 567 = .ok (.iconst 1, 1) := by decide +kernel
theorem dL_acts_568 : decode cL_acts 568 = .ok (.invokevirtual 9, 3) := by decide +kernel
theorem dL_acts_571 : decode cL_acts 571 = .ok (.istore 24, 2) := by decide +kernel
theorem dL_acts_573 : decode cL_acts 573 = .ok (.iconst 0, 1) := by decide +kernel
theorem dL_acts_574 : decode cL_acts 574 = .ok (.istore 25, 2) := by decide +kernel
theorem dL_acts_576 : decode cL_acts 576 = .ok (.iconst 0, 1) := by decide +kernel
theorem dL_acts_577 : decode cL_acts 577 = .ok (.istore 26, 2) := by decide +kernel
theorem dL_acts_579 : decode cL_acts 579 = .ok (.iload 26, 2) := by decide +kernel
theorem dL_acts_581 : decode cL_acts 581 = .ok (.bipush 8, 2) := by decide +kernel
theorem dL_acts_583 : decode cL_acts 583 = .ok (.if_icmp .ge 31, 3) := by decide +kernel
theorem dL_acts_586 : decode cL_acts 586 = .ok (.iload 25, 2) := by decide +kernel
theorem dL_acts_588 : decode cL_acts 588 = .ok (.iload_n 1, 1) := by decide +kernel
theorem dL_acts_589 : decode cL_acts 589 = .ok (.bipush 9, 2) := by decide +kernel
theorem dL_acts_591 : decode cL_acts 591 = .ok (.iconst 2, 1) := by decide +kernel
theorem dL_acts_592 : decode cL_acts 592 = .ok (.iload 26, 2) := by decide +kernel
theorem dL_acts_594 : decode cL_acts 594 = .ok (.imul, 1) := by decide +kernel
theorem dL_acts_595 : decode cL_acts 595 = .ok (.iadd, 1) := by decide +kernel
theorem dL_acts_596 : decode cL_acts 596 = .ok (.ishr, 1) := by decide +kernel
theorem dL_acts_597 : decode cL_acts 597 = .ok (.bipush 7, 2) := by decide +kernel
theorem dL_acts_599 : decode cL_acts 599 = .ok (.irem, 1) := by decide +kernel
theorem dL_acts_600 : decode cL_acts 600 = .ok (.iconst 3, 1) := by decide +kernel
theorem dL_acts_601 : decode cL_acts 601 = .ok (.iload 26, 2) := by decide +kernel
theorem dL_acts_603 : decode cL_acts 603 = .ok (.imul, 1) := by decide +kernel
theorem dL_acts_604 : decode cL_acts 604 = .ok (.ishl, 1) := by decide +kernel
theorem dL_acts_605 : decode cL_acts 605 = .ok (.iadd, 1) := by decide +kernel
theorem dL_acts_606 : decode cL_acts 606 = .ok (.istore 25, 2) := by decide +kernel
theorem dL_acts_608 : decode cL_acts 608 = .ok (.iinc 26 1, 3) := by decide +kernel
theorem dL_acts_611 : decode cL_acts 611 = .ok (.goto (-32), 3) := by decide +kernel
theorem dL_acts_614 : decode cL_acts 614 = .ok (.aload_n 0, 1) := by decide +kernel
theorem dL_acts_615 : decode cL_acts 615 = .ok (.iload_n 3, 1) := by decide +kernel
theorem dL_acts_616 : decode cL_acts 616 = .ok (.iload 25, 2) := by decide +kernel
theorem dL_acts_618 : decode cL_acts 618 = .ok (.invokevirtual 61, 3) := by decide +kernel
theorem dL_acts_621 : decode cL_acts 621 = .ok (.istore 26, 2) := by decide +kernel
theorem dL_acts_623 : decode cL_acts 623 = .ok (.iload 8, 2) := by decide +kernel
theorem dL_acts_625 : decode cL_acts 625 = .ok (.ifCond .eq 63, 3) := by decide +kernel
theorem dL_acts_628 : decode cL_acts 628 = .ok (.iload 26, 2) := by decide +kernel
theorem dL_acts_630 : decode cL_acts 630 = .ok (.iload 24, 2) := by decide +kernel
theorem dL_acts_632 : decode cL_acts 632 = .ok (.if_icmp .ne 52, 3) := by decide +kernel
theorem dL_acts_635 : decode cL_acts 635 = .ok (.aload_n 0, 1) := by decide +kernel
theorem dL_acts_636 : decode cL_acts 636 = .ok (.iconst 0, 1) := by decide +kernel
theorem dL_acts_637 : decode cL_acts 637 = .ok (.iload_n 3, 1) := by decide +kernel
theorem dL_acts_638 : decode cL_acts 638 = .ok (.iconst 3, 1) := by decide +kernel
theorem dL_acts_639 : decode cL_acts 639 = .ok (.iconst 2, 1) := by decide +kernel
theorem dL_acts_640 : decode cL_acts 640 = .ok (.invokevirtual 15, 3) := by decide +kernel
theorem dL_acts_643 : decode cL_acts 643 = .ok (.iload 25, 2) := by decide +kernel
theorem dL_acts_645 : decode cL_acts 645 = .ok (.bipush 9, 2) := by decide +kernel
theorem dL_acts_647 : decode cL_acts 647 = .ok (.ishr, 1) := by decide +kernel
theorem dL_acts_648 : decode cL_acts 648 = .ok (.bipush 7, 2) := by decide +kernel
theorem dL_acts_650 : decode cL_acts 650 = .ok (.iand, 1) := by decide +kernel
theorem dL_acts_651 : decode cL_acts 651 = .ok (.if_icmp .ne 33, 3) := by decide +kernel
theorem dL_acts_654 : decode cL_acts 654 = .ok (.aload_n 0, 1) := by decide +kernel
theorem dL_acts_655 : decode cL_acts 655 = .ok (.iconst 1, 1) := by decide +kernel
theorem dL_acts_656 : decode cL_acts 656 = .ok (.iload_n 3, 1) := by decide +kernel
theorem dL_acts_657 : decode cL_acts 657 = .ok (.iconst 4, 1) := by decide +kernel
theorem dL_acts_658 : decode cL_acts 658 = .ok (.iconst 4, 1) := by decide +kernel
theorem dL_acts_659 : decode cL_acts 659 = .ok (.invokevirtual 15, 3) := by decide +kernel
theorem dL_acts_662 : decode cL_acts 662 = .ok (.aload_n 0, 1) := by decide +kernel
theorem dL_acts_663 : decode cL_acts 663 = .ok (.bipush 9, 2) := by decide +kernel
theorem dL_acts_665 : decode cL_acts 665 = .ok (.invokevirtual 19, 3) := by decide +kernel
theorem dL_acts_668 : decode cL_acts 668 = .ok (.iconst 1, 1) := by decide +kernel
theorem dL_acts_669 : decode cL_acts 669 = .ok (.if_icmp .ne 7, 3) := by decide +kernel
theorem dL_acts_672 : decode cL_acts 672 = .ok (.iconst 3, 1) := by decide +kernel
theorem dL_acts_673 : decode cL_acts 673 = .ok (.goto 4, 3) := by decide +kernel
theorem dL_acts_676 : decode cL_acts 676 = .ok (.iconst 4, 1) := by decide +kernel
theorem dL_acts_677 : decode cL_acts 677 = .ok (.if_icmp .ne 7, 3) := by decide +kernel
theorem dL_acts_680 : decode cL_acts 680 = .ok (.iconst 1, 1) := by decide +kernel
theorem dL_acts_681 : decode cL_acts 681 = .ok (.goto 19, 3) := by decide +kernel
theorem dL_acts_684 : decode cL_acts 684 = .ok (.iconst 0, 1) := by decide +kernel
theorem dL_acts_685 : decode cL_acts 685 = .ok (.goto 15, 3) := by decide +kernel
theorem dL_acts_688 : decode cL_acts 688 = .ok (.iload 26, 2) := by decide +kernel
theorem dL_acts_690 : decode cL_acts 690 = .ok (.bipush (-5), 2) := by decide +kernel
theorem dL_acts_692 : decode cL_acts 692 = .ok (.if_icmp .ne 7, 3) := by decide +kernel
theorem dL_acts_695 : decode cL_acts 695 = .ok (.iconst 1, 1) := by decide +kernel
theorem dL_acts_696 : decode cL_acts 696 = .ok (.goto 4, 3) := by decide +kernel
theorem dL_acts_699 : decode cL_acts 699 = .ok (.iconst 0, 1) := by decide +kernel
theorem dL_acts_700 : decode cL_acts 700 = .ok (.ireturn, 1) := by decide +kernel
theorem dL_acts_701 : decode cL_acts 701 = .ok (.iconst 1, 1) := by decide +kernel
theorem dL_acts_702 : decode cL_acts 702 = .ok (.iload_n 1, 1) := by decide +kernel
theorem dL_acts_703 : decode cL_acts 703 = .ok (.iconst 4, 1) := by decide +kernel
theorem dL_acts_704 : decode cL_acts 704 = .ok (.ishr, 1) := by decide +kernel
theorem dL_acts_705 : decode cL_acts 705 = .ok (.bipush 6, 2) := by decide +kernel
theorem dL_acts_707 : decode cL_acts 707 = .ok (.irem, 1) := by decide +kernel
theorem dL_acts_708 : decode cL_acts 708 = .ok (.iadd, 1) := by decide +kernel
theorem dL_acts_709 : decode cL_acts 709 = .ok (.istore 27, 2) := by decide +kernel
theorem dL_acts_711 : decode cL_acts 711 = .ok (.aload_n 0, 1) := by decide +kernel
theorem dL_acts_712 : decode cL_acts 712 = .ok (.iload 27, 2) := by decide +kernel
theorem dL_acts_714 : decode cL_acts 714 = .ok (.iconst 0, 1) := by decide +kernel
theorem dL_acts_715 : decode cL_acts 715 = .ok (.invokevirtual 32, 3) := by decide +kernel
theorem dL_acts_718 : decode cL_acts 718 = .ok (.istore 28, 2) := by decide +kernel
theorem dL_acts_720 : decode cL_acts 720 = .ok (.iconst 1, 1) := by decide +kernel
theorem dL_acts_721 : decode cL_acts 721 = .ok (.iload_n 1, 1) := by decide +kernel
theorem dL_acts_722 : decode cL_acts 722 = .ok (.bipush 7, 2) := by decide +kernel
theorem dL_acts_724 : decode cL_acts 724 = .ok (.ishr, 1) := by decide +kernel
theorem dL_acts_725 : decode cL_acts 725 = .ok (.sipush 900, 3) := by decide +kernel
theorem dL_acts_728 : decode cL_acts 728 = .ok (.irem, 1) := by decide +kernel
theorem dL_acts_729 : decode cL_acts 729 = .ok (.iadd, 1) := by decide +kernel
theorem dL_acts_730 : decode cL_acts 730 = .ok (.istore 29, 2) := by decide +kernel
theorem dL_acts_732 : decode cL_acts 732 = .ok (.aload_n 0, 1) := by decide +kernel
theorem dL_acts_733 : decode cL_acts 733 = .ok (.iload 27, 2) := by decide +kernel
theorem dL_acts_735 : decode cL_acts 735 = .ok (.iload 29, 2) := by decide +kernel
theorem dL_acts_737 : decode cL_acts 737 = .ok (.invokevirtual 64, 3) := by decide +kernel
theorem dL_acts_740 : decode cL_acts 740 = .ok (.iload 28, 2) := by decide +kernel
theorem dL_acts_742 : decode cL_acts 742 = .ok (.iload 29, 2) := by decide +kernel
theorem dL_acts_744 : decode cL_acts 744 = .ok (.iadd, 1) := by decide +kernel
theorem dL_acts_745 : decode cL_acts 745 = .ok (.sipush 9999, 3) := by decide +kernel
theorem dL_acts_748 : decode cL_acts 748 = .ok (.if_icmp .le 9, 3) := by decide +kernel
theorem dL_acts_751 : decode cL_acts 751 = .ok (.sipush 9999, 3) := by decide +kernel
theorem dL_acts_754 : decode cL_acts 754 = .ok (.goto 8, 3) := by decide +kernel
theorem dL_acts_757 : decode cL_acts 757 = .ok (.iload 28, 2) := by decide +kernel
theorem dL_acts_759 : decode cL_acts 759 = .ok (.iload 29, 2) := by decide +kernel
theorem dL_acts_761 : decode cL_acts 761 = .ok (.iadd, 1) := by decide +kernel
theorem dL_acts_762 : decode cL_acts 762 = .ok (.if_icmp .ne 7, 3) := by decide +kernel
theorem dL_acts_765 : decode cL_acts 765 = .ok (.iconst 1, 1) := by decide +kernel
theorem dL_acts_766 : decode cL_acts 766 = .ok (.goto 4, 3) := by decide +kernel
theorem dL_acts_769 : decode cL_acts 769 = .ok (.iconst 0, 1) := by decide +kernel
theorem dL_acts_770 : decode cL_acts 770 = .ok (.ireturn, 1) := by decide +kernel
theorem dL_acts_771 : decode cL_acts 771 = .ok (.aload_n 0, 1) := by decide +kernel
theorem dL_acts_772 : decode cL_acts 772 = .ok (.iconst 0, 1) := by decide +kernel
theorem dL_acts_773 : decode cL_acts 773 = .ok (.invokevirtual 19, 3) := by decide +kernel
theorem dL_acts_776 : decode cL_acts 776 = .ok (.istore 30, 2) := by decide +kernel
theorem dL_acts_778 : decode cL_acts 778 = .ok (.iload 30, 2) := by decide +kernel
theorem dL_acts_780 : decode cL_acts 780 = .ok (.iconst 5, 1) := by decide +kernel
theorem dL_acts_781 : decode cL_acts 781 = .ok (.if_icmp .ge 18, 3) := by decide +kernel
theorem dL_acts_784 : decode cL_acts 784 = .ok (.aload_n 0, 1) := by decide +kernel
theorem dL_acts_785 : decode cL_acts 785 = .ok (.iload 30, 2) := by decide +kernel
theorem dL_acts_787 : decode cL_acts 787 = .ok (.iconst 2, 1) := by decide +kernel
theorem dL_acts_788 : decode cL_acts 788 = .ok (.invokevirtual 9, 3) := by decide +kernel
theorem dL_acts_791 : decode cL_acts 791 = .ok (.iconst 1, 1) := by decide +kernel
theorem dL_acts_792 : decode cL_acts 792 = .ok (.if_icmp .ne 7, 3) := by decide +kernel
theorem dL_acts_795 : decode cL_acts 795 = .ok (.iconst 1, 1) := by decide +kernel
theorem dL_acts_796 : decode cL_acts 796 = .ok (.goto 4, 3) := by decide +kernel
theorem dL_acts_799 : decode cL_acts 799 = .ok (.iconst 0, 1) := by decide +kernel
theorem dL_acts_800 : decode cL_acts 800 = .ok (.istore 31, 2) := by decide +kernel
theorem dL_acts_802 : decode cL_acts 802 = .ok (.aload_n 0, 1) := by decide +kernel
theorem dL_acts_803 : decode cL_acts 803 = .ok (.invokevirtual 67, 3) := by decide +kernel
theorem dL_acts_806 : decode cL_acts 806 = .ok (.iload 31, 2) := by decide +kernel
theorem dL_acts_808 : decode cL_acts 808 = .ok (.ifCond .eq 8, 3) := by decide +kernel
theorem dL_acts_811 : decode cL_acts 811 = .ok (.iload 30, 2) := by decide +kernel
theorem dL_acts_813 : decode cL_acts 813 = .ok (.goto 5, 3) := by decide +kernel
theorem dL_acts_816 : decode cL_acts 816 = .ok (.bipush (-5), 2) := by decide +kernel
theorem dL_acts_818 : decode cL_acts 818 = .ok (.if_icmp .ne 37, 3) := by decide +kernel
theorem dL_acts_821 : decode cL_acts 821 = .ok (.iload 30, 2) := by decide +kernel
theorem dL_acts_823 : decode cL_acts 823 = .ok (.iconst 5, 1) := by decide +kernel
theorem dL_acts_824 : decode cL_acts 824 = .ok (.if_icmp .eq 27, 3) := by decide +kernel
theorem dL_acts_827 : decode cL_acts 827 = .ok (.aload_n 0, 1) := by decide +kernel
theorem dL_acts_828 : decode cL_acts 828 = .ok (.invokevirtual 70, 3) := by decide +kernel
theorem dL_acts_831 : decode cL_acts 831 = .ok (.iload 31, 2) := by decide +kernel
theorem dL_acts_833 : decode cL_acts 833 = .ok (.ifCond .eq 13, 3) := by decide +kernel
theorem dL_acts_836 : decode cL_acts 836 = .ok (.iload 30, 2) := by decide +kernel
theorem dL_acts_838 : decode cL_acts 838 = .ok (.iconst 4, 1) := by decide +kernel
theorem dL_acts_839 : decode cL_acts 839 = .ok (.if_icmp .ne 7, 3) := by decide +kernel
theorem dL_acts_842 : decode cL_acts 842 = .ok (.iconst 0, 1) := by decide +kernel
theorem dL_acts_843 : decode cL_acts 843 = .ok (.goto 5, 3) := by decide +kernel
theorem dL_acts_846 : decode cL_acts 846 = .ok (.bipush (-5), 2) := by decide +kernel
theorem dL_acts_848 : decode cL_acts 848 = .ok (.if_icmp .ne 7, 3) := by decide +kernel
theorem dL_acts_851 : decode cL_acts 851 = .ok (.iconst 1, 1) := by decide +kernel
theorem dL_acts_852 : decode cL_acts 852 = .ok (.goto 4, 3) := by decide +kernel
theorem dL_acts_855 : decode cL_acts 855 = .ok (.iconst 0, 1) := by decide +kernel
theorem dL_acts_856 : decode cL_acts 856 = .ok (.ireturn, 1) := by decide +kernel
theorem dL_acts_857 : decode cL_acts 857 = .ok (.iload_n 1, 1) := by decide +kernel
theorem dL_acts_858 : decode cL_acts 858 = .ok (.iconst 4, 1) := by decide +kernel
theorem dL_acts_859 : decode cL_acts 859 = .ok (.ishr, 1) := by decide +kernel
theorem dL_acts_860 : decode cL_acts 860 = .ok (.iconst 3, 1) := by decide +kernel
theorem dL_acts_861 : decode cL_acts 861 = .ok (.irem, 1) := by decide +kernel
theorem dL_acts_862 : decode cL_acts 862 = .ok (.istore 32, 2) := by decide +kernel
theorem dL_acts_864 : decode cL_acts 864 = .ok (.iload 32, 2) := by decide +kernel
theorem dL_acts_866 : decode cL_acts 866 = .ok (.iconst 2, 1) := by decide +kernel
theorem dL_acts_867 : decode cL_acts 867 = .ok (.if_icmp .ne 12, 3) := by decide +kernel
theorem dL_acts_870 : decode cL_acts 870 = .ok (.iload_n 1, 1) := by decide +kernel
theorem dL_acts_871 : decode cL_acts 871 = .ok (.bipush 8, 2) := by decide +kernel
theorem dL_acts_873 : decode cL_acts 873 = .ok (.ishr, 1) := by decide +kernel
theorem dL_acts_874 : decode cL_acts 874 = .ok (.iconst 2, 1) := by decide +kernel
theorem dL_acts_875 : decode cL_acts 875 = .ok (.irem, 1) := by decide +kernel
theorem dL_acts_876 : decode cL_acts 876 = .ok (.goto 12, 3) := by decide +kernel
theorem dL_acts_879 : decode cL_acts 879 = .ok (.iconst 1, 1) := by decide +kernel
theorem dL_acts_880 : decode cL_acts 880 = .ok (.iload_n 1, 1) := by decide +kernel
theorem dL_acts_881 : decode cL_acts 881 = .ok (.bipush 8, 2) := by decide +kernel
theorem dL_acts_883 : decode cL_acts 883 = .ok (.ishr, 1) := by decide +kernel
theorem dL_acts_884 : decode cL_acts 884 = .ok (.bipush 40, 2) := by decide +kernel
theorem dL_acts_886 : decode cL_acts 886 = .ok (.irem, 1) := by decide +kernel
theorem dL_acts_887 : decode cL_acts 887 = .ok (.iadd, 1) := by decide +kernel
theorem dL_acts_888 : decode cL_acts 888 = .ok (.istore 33, 2) := by decide +kernel
theorem dL_acts_890 : decode cL_acts 890 = .ok (.aload_n 0, 1) := by decide +kernel
theorem dL_acts_891 : decode cL_acts 891 = .ok (.bipush 7, 2) := by decide +kernel
theorem dL_acts_893 : decode cL_acts 893 = .ok (.iload 32, 2) := by decide +kernel
theorem dL_acts_895 : decode cL_acts 895 = .ok (.iadd, 1) := by decide +kernel
theorem dL_acts_896 : decode cL_acts 896 = .ok (.invokevirtual 19, 3) := by decide +kernel
theorem dL_acts_899 : decode cL_acts 899 = .ok (.istore 34, 2) := by decide +kernel
theorem dL_acts_901 : decode cL_acts 901 = .ok (.aload_n 0, 1) := by decide +kernel
theorem dL_acts_902 : decode cL_acts 902 = .ok (.iload 32, 2) := by decide +kernel
theorem dL_acts_904 : decode cL_acts 904 = .ok (.iload 33, 2) := by decide +kernel
theorem dL_acts_906 : decode cL_acts 906 = .ok (.invokevirtual 73, 3) := by decide +kernel
theorem dL_acts_909 : decode cL_acts 909 = .ok (.iload 34, 2) := by decide +kernel
theorem dL_acts_911 : decode cL_acts 911 = .ok (.if_icmp .ne 21, 3) := by decide +kernel
theorem dL_acts_914 : decode cL_acts 914 = .ok (.aload_n 0, 1) := by decide +kernel
theorem dL_acts_915 : decode cL_acts 915 = .ok (.bipush 7, 2) := by decide +kernel
theorem dL_acts_917 : decode cL_acts 917 = .ok (.iload 32, 2) := by decide +kernel
theorem dL_acts_919 : decode cL_acts 919 = .ok (.iadd, 1) := by decide +kernel
theorem dL_acts_920 : decode cL_acts 920 = .ok (.invokevirtual 19, 3) := by decide +kernel
theorem dL_acts_923 : decode cL_acts 923 = .ok (.iload 33, 2) := by decide +kernel
theorem dL_acts_925 : decode cL_acts 925 = .ok (.if_icmp .ne 7, 3) := by decide +kernel
theorem dL_acts_928 : decode cL_acts 928 = .ok (.iconst 1, 1) := by decide +kernel
theorem dL_acts_929 : decode cL_acts 929 = .ok (.goto 4, 3) := by decide +kernel
theorem dL_acts_932 : decode cL_acts 932 = .ok (.iconst 0, 1) := by decide +kernel
theorem dL_acts_933 : decode cL_acts 933 = .ok (.ireturn, 1) := by decide +kernel
theorem dL_law_0 : decode cL_law 0 = .ok (.new 10, 3) := by decide +kernel
theorem dL_law_3 : decode cL_law 3 = .ok (.dup, 1) := by decide +kernel
theorem dL_law_4 : decode cL_law 4 = .ok (.invokespecial 76, 3) := by decide +kernel
theorem dL_law_7 : decode cL_law 7 = .ok (.astore_n 1, 1) := by decide +kernel
theorem dL_law_8 : decode cL_law 8 = .ok (.aload_n 1, 1) := by decide +kernel
theorem dL_law_9 : decode cL_law 9 = .ok (.invokevirtual 77, 3) := by decide +kernel
theorem dL_law_12 : decode cL_law 12 = .ok (.bipush (-5), 2) := by decide +kernel
theorem dL_law_14 : decode cL_law 14 = .ok (.if_icmp .ne 79, 3) := by decide +kernel
theorem dL_law_17 : decode cL_law 17 = .ok (.aload_n 1, 1) := by decide +kernel
theorem dL_law_18 : decode cL_law 18 = .ok (.iconst 0, 1) := by decide +kernel
theorem dL_law_19 : decode cL_law 19 = .ok (.invokevirtual 80, 3) := by decide +kernel
theorem dL_law_22 : decode cL_law 22 = .ok (.bipush (-5), 2) := by decide +kernel
theorem dL_law_24 : decode cL_law 24 = .ok (.if_icmp .ne 69, 3) := by decide +kernel
theorem dL_law_27 : decode cL_law 27 = .ok (.aload_n 1, 1) := by decide +kernel
theorem dL_law_28 : decode cL_law 28 = .ok (.iconst 0, 1) := by decide +kernel
theorem dL_law_29 : decode cL_law 29 = .ok (.invokevirtual 42, 3) := by decide +kernel
theorem dL_law_32 : decode cL_law 32 = .ok (.bipush (-6), 2) := by decide +kernel
theorem dL_law_34 : decode cL_law 34 = .ok (.if_icmp .ne 59, 3) := by decide +kernel
theorem dL_law_37 : decode cL_law 37 = .ok (.aload_n 1, 1) := by decide +kernel
theorem dL_law_38 : decode cL_law 38 = .ok (.invokevirtual 35, 3) := by decide +kernel
theorem dL_law_41 : decode cL_law 41 = .ok (.ifCond .ne 52, 3) := by decide +kernel
theorem dL_law_44 : decode cL_law 44 = .ok (.aload_n 1, 1) := by decide +kernel
theorem dL_law_45 : decode cL_law 45 = .ok (.invokevirtual 70, 3) := by decide +kernel
theorem dL_law_48 : decode cL_law 48 = .ok (.bipush (-5), 2) := by decide +kernel
theorem dL_law_50 : decode cL_law 50 = .ok (.if_icmp .ne 43, 3) := by decide +kernel
theorem dL_law_53 : decode cL_law 53 = .ok (.aload_n 1, 1) := by decide +kernel
theorem dL_law_54 : decode cL_law 54 = .ok (.invokevirtual 67, 3) := by decide +kernel
theorem dL_law_57 : decode cL_law 57 = .ok (.bipush (-5), 2) := by decide +kernel
theorem dL_law_59 : decode cL_law 59 = .ok (.if_icmp .ne 34, 3) := by decide +kernel
theorem dL_law_62 : decode cL_law 62 = .ok (.aload_n 1, 1) := by decide +kernel
theorem dL_law_63 : decode cL_law 63 = .ok (.iconst 0, 1) := by decide +kernel
theorem dL_law_64 : decode cL_law 64 = .ok (.iconst 1, 1) := by decide +kernel
theorem dL_law_65 : decode cL_law 65 = .ok (.invokevirtual 45, 3) := by decide +kernel
theorem dL_law_68 : decode cL_law 68 = .ok (.ifCond .ne 25, 3) := by decide +kernel
theorem dL_law_71 : decode cL_law 71 = .ok (.aload_n 1, 1) := by decide +kernel
theorem dL_law_72 : decode cL_law 72 = .ok (.iconst 1, 1) := by decide +kernel
theorem dL_law_73 : decode cL_law 73 = .ok (.iconst 2, 1) := by decide +kernel
theorem dL_law_74 : decode cL_law 74 = .ok (.invokevirtual 45, 3) := by decide +kernel
theorem dL_law_77 : decode cL_law 77 = .ok (.ifCond .ne 16, 3) := by decide +kernel
theorem dL_law_80 : decode cL_law 80 = .ok (.aload_n 1, 1) := by decide +kernel
theorem dL_law_81 : decode cL_law 81 = .ok (.iconst 2, 1) := by decide +kernel
theorem dL_law_82 : decode cL_law 82 = .ok (.iconst 3, 1) := by decide +kernel
theorem dL_law_83 : decode cL_law 83 = .ok (.invokevirtual 45, 3) := by decide +kernel
theorem dL_law_86 : decode cL_law 86 = .ok (.ifCond .ne 7, 3) := by decide +kernel
theorem dL_law_89 : decode cL_law 89 = .ok (.iconst 1, 1) := by decide +kernel
theorem dL_law_90 : decode cL_law 90 = .ok (.goto 4, 3) := by decide +kernel
theorem dL_law_93 : decode cL_law 93 = .ok (.iconst 0, 1) := by decide +kernel
theorem dL_law_94 : decode cL_law 94 = .ok (.istore_n 2, 1) := by decide +kernel
theorem dL_law_95 : decode cL_law 95 = .ok (.iconst 0, 1) := by decide +kernel
theorem dL_law_96 : decode cL_law 96 = .ok (.istore_n 3, 1) := by decide +kernel
theorem dL_law_97 : decode cL_law 97 = .ok (.iload_n 3, 1) := by decide +kernel
theorem dL_law_98 : decode cL_law 98 = .ok (.bipush 40, 2) := by decide +kernel
theorem dL_law_100 : decode cL_law 100 = .ok (.if_icmp .ge 45, 3) := by decide +kernel
theorem dL_law_103 : decode cL_law 103 = .ok (.iload_n 2, 1) := by decide +kernel
theorem dL_law_104 : decode cL_law 104 = .ok (.ifCond .eq 41, 3) := by decide +kernel
theorem dL_law_107 : decode cL_law 107 = .ok (.aload_n 1, 1) := by decide +kernel
theorem dL_law_108 : decode cL_law 108 = .ok (.aload_n 0, 1) := by decide +kernel
theorem dL_law_109 : decode cL_law 109 = .ok (.iload_n 3, 1) := by decide +kernel
theorem dL_law_110 : decode cL_law 110 = .ok (.invokestatic 83, 3) := by decide +kernel
theorem dL_law_113 : decode cL_law 113 = .ok (.invokestatic 87, 3) := by decide +kernel
theorem dL_law_116 : decode cL_law 116 = .ok (.ifCond .eq 21, 3) := by decide +kernel
theorem dL_law_119 : decode cL_law 119 = .ok (.iload_n 3, 1) := by decide +kernel
theorem dL_law_120 : decode cL_law 120 = .ok (.bipush 13, 2) := by decide +kernel
theorem dL_law_122 : decode cL_law 122 = .ok (.irem, 1) := by decide +kernel
theorem dL_law_123 : decode cL_law 123 = .ok (.ifCond .gt 10, 3) := by decide +kernel
theorem dL_law_126 : decode cL_law 126 = .ok (.aload_n 1, 1) := by decide +kernel
theorem dL_law_127 : decode cL_law 127 = .ok (.invokestatic 90, 3) := by decide +kernel
theorem dL_law_130 : decode cL_law 130 = .ok (.ifCond .eq 7, 3) := by decide +kernel
theorem dL_law_133 : decode cL_law 133 = .ok (.iconst 1, 1) := by decide +kernel
theorem dL_law_134 : decode cL_law 134 = .ok (.goto 4, 3) := by decide +kernel
theorem dL_law_137 : decode cL_law 137 = .ok (.iconst 0, 1) := by decide +kernel
theorem dL_law_138 : decode cL_law 138 = .ok (.istore_n 2, 1) := by decide +kernel
theorem dL_law_139 : decode cL_law 139 = .ok (.iinc 3 1, 3) := by decide +kernel
theorem dL_law_142 : decode cL_law 142 = .ok (.goto (-45), 3) := by decide +kernel
theorem dL_law_145 : decode cL_law 145 = .ok (.aload_n 1, 1) := by decide +kernel
theorem dL_law_146 : decode cL_law 146 = .ok (.iconst 0, 1) := by decide +kernel
theorem dL_law_147 : decode cL_law 147 = .ok (.invokevirtual 19, 3) := by decide +kernel
theorem dL_law_150 : decode cL_law 150 = .ok (.istore_n 3, 1) := by decide +kernel
theorem dL_law_151 : decode cL_law 151 = .ok (.aload_n 1, 1) := by decide +kernel
theorem dL_law_152 : decode cL_law 152 = .ok (.iconst 4, 1) := by decide +kernel
theorem dL_law_153 : decode cL_law 153 = .ok (.invokevirtual 19, 3) := by decide +kernel
theorem dL_law_156 : decode cL_law 156 = .ok (.istore 4, 2) := by decide +kernel
theorem dL_law_158 : decode cL_law 158 = .ok (.iload_n 2, 1) := by decide +kernel
theorem dL_law_159 : decode cL_law 159 = .ok (.ifCond .eq 68, 3) := by decide +kernel
theorem dL_law_162 : decode cL_law 162 = .ok (.aload_n 1, 1) := by decide +kernel
theorem dL_law_163 : decode cL_law 163 = .ok (.invokestatic 90, 3) := by decide +kernel
theorem dL_law_166 : decode cL_law 166 = .ok (.ifCond .eq 61, 3) := by decide +kernel
theorem dL_law_169 : decode cL_law 169 = .ok (.aload_n 1, 1) := by decide +kernel
theorem dL_law_170 : decode cL_law 170 = .ok (.invokestatic 94, 3) := by decide +kernel
theorem dL_law_173 : decode cL_law 173 = .ok (.ifCond .eq 54, 3) := by decide +kernel
theorem dL_law_176 : decode cL_law 176 = .ok (.aload_n 1, 1) := by decide +kernel
theorem dL_law_177 : decode cL_law 177 = .ok (.iconst 1, 1) := by decide +kernel
theorem dL_law_178 : decode cL_law 178 = .ok (.invokevirtual 97, 3) := by decide +kernel
theorem dL_law_181 : decode cL_law 181 = .ok (.iload_n 3, 1) := by decide +kernel
theorem dL_law_182 : decode cL_law 182 = .ok (.if_icmp .ne 45, 3) := by decide +kernel
theorem dL_law_185 : decode cL_law 185 = .ok (.aload_n 1, 1) := by decide +kernel
theorem dL_law_186 : decode cL_law 186 = .ok (.iconst 0, 1) := by decide +kernel
theorem dL_law_187 : decode cL_law 187 = .ok (.iconst 1, 1) := by decide +kernel
theorem dL_law_188 : decode cL_law 188 = .ok (.invokevirtual 58, 3) := by decide +kernel
theorem dL_law_191 : decode cL_law 191 = .ok (.ifCond .lt 36, 3) := by decide +kernel
theorem dL_law_194 : decode cL_law 194 = .ok (.aload_n 1, 1) := by decide +kernel
theorem dL_law_195 : decode cL_law 195 = .ok (.iconst 1, 1) := by decide +kernel
theorem dL_law_196 : decode cL_law 196 = .ok (.bipush 7, 2) := by decide +kernel
theorem dL_law_198 : decode cL_law 198 = .ok (.invokevirtual 64, 3) := by decide +kernel
theorem dL_law_201 : decode cL_law 201 = .ok (.ifCond .le 26, 3) := by decide +kernel
theorem dL_law_204 : decode cL_law 204 = .ok (.aload_n 1, 1) := by decide +kernel
theorem dL_law_205 : decode cL_law 205 = .ok (.iconst 1, 1) := by decide +kernel
theorem dL_law_206 : decode cL_law 206 = .ok (.invokevirtual 80, 3) := by decide +kernel
theorem dL_law_209 : decode cL_law 209 = .ok (.iload_n 3, 1) := by decide +kernel
theorem dL_law_210 : decode cL_law 210 = .ok (.if_icmp .ne 17, 3) := by decide +kernel
theorem dL_law_213 : decode cL_law 213 = .ok (.aload_n 1, 1) := by decide +kernel
theorem dL_law_214 : decode cL_law 214 = .ok (.iconst 4, 1) := by decide +kernel
theorem dL_law_215 : decode cL_law 215 = .ok (.invokevirtual 19, 3) := by decide +kernel
theorem dL_law_218 : decode cL_law 218 = .ok (.iload 4, 2) := by decide +kernel
theorem dL_law_220 : decode cL_law 220 = .ok (.if_icmp .ne 7, 3) := by decide +kernel
theorem dL_law_223 : decode cL_law 223 = .ok (.iconst 1, 1) := by decide +kernel
theorem dL_law_224 : decode cL_law 224 = .ok (.goto 4, 3) := by decide +kernel
theorem dL_law_227 : decode cL_law 227 = .ok (.iconst 0, 1) := by decide +kernel
theorem dL_law_228 : decode cL_law 228 = .ok (.istore_n 2, 1) := by decide +kernel
theorem dL_law_229 : decode cL_law 229 = .ok (.iload_n 2, 1) := by decide +kernel
theorem dL_law_230 : decode cL_law 230 = .ok (.ifCond .eq 23, 3) := by decide +kernel
theorem dL_law_233 : decode cL_law 233 = .ok (.aload_n 1, 1) := by decide +kernel
theorem dL_law_234 : decode cL_law 234 = .ok (.invokevirtual 77, 3) := by decide +kernel
theorem dL_law_237 : decode cL_law 237 = .ok (.ifCond .lt 16, 3) := by decide +kernel
theorem dL_law_240 : decode cL_law 240 = .ok (.aload_n 1, 1) := by decide +kernel
theorem dL_law_241 : decode cL_law 241 = .ok (.iconst 0, 1) := by decide +kernel
theorem dL_law_242 : decode cL_law 242 = .ok (.invokevirtual 19, 3) := by decide +kernel
theorem dL_law_245 : decode cL_law 245 = .ok (.iload_n 3, 1) := by decide +kernel
theorem dL_law_246 : decode cL_law 246 = .ok (.if_icmp .ne 7, 3) := by decide +kernel
theorem dL_law_249 : decode cL_law 249 = .ok (.iconst 1, 1) := by decide +kernel
theorem dL_law_250 : decode cL_law 250 = .ok (.goto 4, 3) := by decide +kernel
theorem dL_law_253 : decode cL_law 253 = .ok (.iconst 0, 1) := by decide +kernel
theorem dL_law_254 : decode cL_law 254 = .ok (.ireturn, 1) := by decide +kernel
