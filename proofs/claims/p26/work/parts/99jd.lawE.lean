theorem dL_areEdges_0 : decode cL_areEdges 0 = .ok (.aload_n 0, 1) := by decide +kernel
theorem dL_areEdges_1 : decode cL_areEdges 1 = .ok (.bipush 6, 2) := by decide +kernel
theorem dL_areEdges_3 : decode cL_areEdges 3 = .ok (.aload_n 2, 1) := by decide +kernel
theorem dL_areEdges_4 : decode cL_areEdges 4 = .ok (.iconst 0, 1) := by decide +kernel
theorem dL_areEdges_5 : decode cL_areEdges 5 = .ok (.iaload, 1) := by decide +kernel
theorem dL_areEdges_6 : decode cL_areEdges 6 = .ok (.iconst 5, 1) := by decide +kernel
theorem dL_areEdges_7 : decode cL_areEdges 7 = .ok (.irem, 1) := by decide +kernel
theorem dL_areEdges_8 : decode cL_areEdges 8 = .ok (.iadd, 1) := by decide +kernel
theorem dL_areEdges_9 : decode cL_areEdges 9 = .ok (.aload_n 0, 1) := by decide +kernel
theorem dL_areEdges_10 : decode cL_areEdges 10 = .ok (.invokevirtual 100, 3) := by decide +kernel
theorem dL_areEdges_13 : decode cL_areEdges 13 = .ok (.invokestatic 120, 3) := by decide +kernel
theorem dL_areEdges_16 : decode cL_areEdges 16 = .ok (.sipush (-601), 3) := by decide +kernel
theorem dL_areEdges_19 : decode cL_areEdges 19 = .ok (.if_icmp .ne 20, 3) := by decide +kernel
theorem dL_areEdges_22 : decode cL_areEdges 22 = .ok (.aload_n 0, 1) := by decide +kernel
theorem dL_areEdges_23 : decode cL_areEdges 23 = .ok (.bipush 8, 2) := by decide +kernel
theorem dL_areEdges_25 : decode cL_areEdges 25 = .ok (.iconst (-1), 1) := by decide +kernel
theorem dL_areEdges_26 : decode cL_areEdges 26 = .ok (.invokestatic 120, 3) := by decide +kernel
theorem dL_areEdges_29 : decode cL_areEdges 29 = .ok (.sipush (-601), 3) := by decide +kernel
theorem dL_areEdges_32 : decode cL_areEdges 32 = .ok (.if_icmp .ne 7, 3) := by decide +kernel
theorem dL_areEdges_35 : decode cL_areEdges 35 = .ok (.iconst 1, 1) := by decide +kernel
theorem dL_areEdges_36 : decode cL_areEdges 36 = .ok (.goto 4, 3) := by decide +kernel
theorem dL_areEdges_39 : decode cL_areEdges 39 = .ok (.iconst 0, 1) := by decide +kernel
theorem dL_areEdges_40 : decode cL_areEdges 40 = .ok (.istore_n 3, 1) := by decide +kernel
theorem dL_areEdges_41 : decode cL_areEdges 41 = .ok (.iconst (-1), 1) := by decide +kernel
theorem dL_areEdges_42 : decode cL_areEdges 42 = .ok (.istore 4, 2) := by decide +kernel
theorem dL_areEdges_44 : decode cL_areEdges 44 = .ok (.iconst 0, 1) := by decide +kernel
theorem dL_areEdges_45 : decode cL_areEdges 45 = .ok (.istore 5, 2) := by decide +kernel
theorem dL_areEdges_47 : decode cL_areEdges 47 = .ok (.iload 5, 2) := by decide +kernel
theorem dL_areEdges_49 : decode cL_areEdges 49 = .ok (.aload_n 0, 1) := by decide +kernel
theorem dL_areEdges_50 : decode cL_areEdges 50 = .ok (.invokevirtual 100, 3) := by decide +kernel
theorem dL_areEdges_53 : decode cL_areEdges 53 = .ok (.if_icmp .ge 304, 3) := by decide +kernel
theorem dL_areEdges_56 : decode cL_areEdges 56 = .ok (.iload_n 3, 1) := by decide +kernel
theorem dL_areEdges_57 : decode cL_areEdges 57 = .ok (.ifCond .eq 300, 3) := by decide +kernel
theorem dL_areEdges_60 : decode cL_areEdges 60 = .ok (.aload_n 0, 1) := by decide +kernel
theorem dL_areEdges_61 : decode cL_areEdges 61 = .ok (.iload 5, 2) := by decide +kernel
theorem dL_areEdges_63 : decode cL_areEdges 63 = .ok (.invokevirtual 38, 3) := by decide +kernel
theorem dL_areEdges_66 : decode cL_areEdges 66 = .ok (.istore 6, 2) := by decide +kernel
theorem dL_areEdges_68 : decode cL_areEdges 68 = .ok (.iload 5, 2) := by decide +kernel
theorem dL_areEdges_70 : decode cL_areEdges 70 = .ok (.ifCond .eq 16, 3) := by decide +kernel
theorem dL_areEdges_73 : decode cL_areEdges 73 = .ok (.aload_n 0, 1) := by decide +kernel
theorem dL_areEdges_74 : decode cL_areEdges 74 = .ok (.iload 5, 2) := by decide +kernel
theorem dL_areEdges_76 : decode cL_areEdges 76 = .ok (.iconst 1, 1) := by decide +kernel
theorem dL_areEdges_77 : decode cL_areEdges 77 = .ok (.isub, 1) := by decide +kernel
theorem dL_areEdges_78 : decode cL_areEdges 78 = .ok (.invokevirtual 38, 3) := by decide +kernel
theorem dL_areEdges_81 : decode cL_areEdges 81 = .ok (.iload 6, 2) := by decide +kernel
theorem dL_areEdges_83 : decode cL_areEdges 83 = .ok (.if_icmp .eq 7, 3) := by decide +kernel
theorem dL_areEdges_86 : decode cL_areEdges 86 = .ok (.iconst 1, 1) := by decide +kernel
theorem dL_areEdges_87 : decode cL_areEdges 87 = .ok (.goto 4, 3) := by decide +kernel
theorem dL_areEdges_90 : decode cL_areEdges 90 = .ok (.iconst 0, 1) := by decide +kernel
theorem dL_areEdges_91 : decode cL_areEdges 91 = .ok (.istore 7, 2) := by decide +kernel
theorem dL_areEdges_93 : decode cL_areEdges 93 = .ok (.iload 5, 2) := by decide +kernel
theorem dL_areEdges_95 : decode cL_areEdges 95 = .ok (.aload_n 0, 1) := by decide +kernel
theorem dL_areEdges_96 : decode cL_areEdges 96 = .ok (.invokevirtual 100, 3) := by decide +kernel
theorem dL_areEdges_99 : decode cL_areEdges 99 = .ok (.iconst 1, 1) := by decide +kernel
theorem dL_areEdges_100 : decode cL_areEdges 100 = .ok (.isub, 1) := by decide +kernel
theorem dL_areEdges_101 : decode cL_areEdges 101 = .ok (.if_icmp .eq 16, 3) := by decide +kernel
theorem dL_areEdges_104 : decode cL_areEdges 104 = .ok (.aload_n 0, 1) := by decide +kernel
theorem dL_areEdges_105 : decode cL_areEdges 105 = .ok (.iload 5, 2) := by decide +kernel
theorem dL_areEdges_107 : decode cL_areEdges 107 = .ok (.iconst 1, 1) := by decide +kernel
theorem dL_areEdges_108 : decode cL_areEdges 108 = .ok (.iadd, 1) := by decide +kernel
theorem dL_areEdges_109 : decode cL_areEdges 109 = .ok (.invokevirtual 38, 3) := by decide +kernel
theorem dL_areEdges_112 : decode cL_areEdges 112 = .ok (.iload 6, 2) := by decide +kernel
theorem dL_areEdges_114 : decode cL_areEdges 114 = .ok (.if_icmp .eq 7, 3) := by decide +kernel
theorem dL_areEdges_117 : decode cL_areEdges 117 = .ok (.iconst 1, 1) := by decide +kernel
theorem dL_areEdges_118 : decode cL_areEdges 118 = .ok (.goto 4, 3) := by decide +kernel
theorem dL_areEdges_121 : decode cL_areEdges 121 = .ok (.iconst 0, 1) := by decide +kernel
theorem dL_areEdges_122 : decode cL_areEdges 122 = .ok (.istore 8, 2) := by decide +kernel
theorem dL_areEdges_124 : decode cL_areEdges 124 = .ok (.iload 6, 2) := by decide +kernel
theorem dL_areEdges_126 : decode cL_areEdges 126 = .ok (.iload 7, 2) := by decide +kernel
theorem dL_areEdges_128 : decode cL_areEdges 128 = .ok (.ifCond .eq 10, 3) := by decide +kernel
theorem dL_areEdges_131 : decode cL_areEdges 131 = .ok (.iload 4, 2) := by decide +kernel
theorem dL_areEdges_133 : decode cL_areEdges 133 = .ok (.iconst 1, 1) := by decide +kernel
theorem dL_areEdges_134 : decode cL_areEdges 134 = .ok (.iadd, 1) := by decide +kernel
theorem dL_areEdges_135 : decode cL_areEdges 135 = .ok (.goto 5, 3) := by decide +kernel
theorem dL_areEdges_138 : decode cL_areEdges 138 = .ok (.iload 4, 2) := by decide +kernel
theorem dL_areEdges_140 : decode cL_areEdges 140 = .ok (.if_icmp .ne 205, 3) := by decide +kernel
theorem dL_areEdges_143 : decode cL_areEdges 143 = .ok (.iload 6, 2) := by decide +kernel
theorem dL_areEdges_145 : decode cL_areEdges 145 = .ok (.aload_n 2, 1) := by decide +kernel
theorem dL_areEdges_146 : decode cL_areEdges 146 = .ok (.iconst 0, 1) := by decide +kernel
theorem dL_areEdges_147 : decode cL_areEdges 147 = .ok (.iaload, 1) := by decide +kernel
theorem dL_areEdges_148 : decode cL_areEdges 148 = .ok (.if_icmp .ge 197, 3) := by decide +kernel
theorem dL_areEdges_151 : decode cL_areEdges 151 = .ok (.aload_n 0, 1) := by decide +kernel
theorem dL_areEdges_152 : decode cL_areEdges 152 = .ok (.iload 5, 2) := by decide +kernel
theorem dL_areEdges_154 : decode cL_areEdges 154 = .ok (.invokevirtual 41, 3) := by decide +kernel
theorem dL_areEdges_157 : decode cL_areEdges 157 = .ok (.aload_n 0, 1) := by decide +kernel
theorem dL_areEdges_158 : decode cL_areEdges 158 = .ok (.iload 5, 2) := by decide +kernel
theorem dL_areEdges_160 : decode cL_areEdges 160 = .ok (.invokevirtual 44, 3) := by decide +kernel
theorem dL_areEdges_163 : decode cL_areEdges 163 = .ok (.if_icmp .ge 182, 3) := by decide +kernel
theorem dL_areEdges_166 : decode cL_areEdges 166 = .ok (.aload_n 0, 1) := by decide +kernel
theorem dL_areEdges_167 : decode cL_areEdges 167 = .ok (.iload 5, 2) := by decide +kernel
theorem dL_areEdges_169 : decode cL_areEdges 169 = .ok (.invokevirtual 44, 3) := by decide +kernel
theorem dL_areEdges_172 : decode cL_areEdges 172 = .ok (.aload_n 0, 1) := by decide +kernel
theorem dL_areEdges_173 : decode cL_areEdges 173 = .ok (.invokevirtual 89, 3) := by decide +kernel
theorem dL_areEdges_176 : decode cL_areEdges 176 = .ok (.if_icmp .ge 169, 3) := by decide +kernel
theorem dL_areEdges_179 : decode cL_areEdges 179 = .ok (.aload_n 0, 1) := by decide +kernel
theorem dL_areEdges_180 : decode cL_areEdges 180 = .ok (.aload_n 1, 1) := by decide +kernel
theorem dL_areEdges_181 : decode cL_areEdges 181 = .ok (.iload 6, 2) := by decide +kernel
theorem dL_areEdges_183 : decode cL_areEdges 183 = .ok (.aload_n 0, 1) := by decide +kernel
theorem dL_areEdges_184 : decode cL_areEdges 184 = .ok (.iload 5, 2) := by decide +kernel
theorem dL_areEdges_186 : decode cL_areEdges 186 = .ok (.invokevirtual 41, 3) := by decide +kernel
theorem dL_areEdges_189 : decode cL_areEdges 189 = .ok (.invokestatic 124, 3) := by decide +kernel
theorem dL_areEdges_192 : decode cL_areEdges 192 = .ok (.ifCond .eq 153, 3) := by decide +kernel
theorem dL_areEdges_195 : decode cL_areEdges 195 = .ok (.aload_n 0, 1) := by decide +kernel
theorem dL_areEdges_196 : decode cL_areEdges 196 = .ok (.aload_n 1, 1) := by decide +kernel
theorem dL_areEdges_197 : decode cL_areEdges 197 = .ok (.iload 6, 2) := by decide +kernel
theorem dL_areEdges_199 : decode cL_areEdges 199 = .ok (.aload_n 0, 1) := by decide +kernel
theorem dL_areEdges_200 : decode cL_areEdges 200 = .ok (.iload 5, 2) := by decide +kernel
theorem dL_areEdges_202 : decode cL_areEdges 202 = .ok (.invokevirtual 44, 3) := by decide +kernel
theorem dL_areEdges_205 : decode cL_areEdges 205 = .ok (.invokestatic 124, 3) := by decide +kernel
theorem dL_areEdges_208 : decode cL_areEdges 208 = .ok (.ifCond .eq 137, 3) := by decide +kernel
theorem dL_areEdges_211 : decode cL_areEdges 211 = .ok (.iload 7, 2) := by decide +kernel
theorem dL_areEdges_213 : decode cL_areEdges 213 = .ok (.ifCond .eq 33, 3) := by decide +kernel
theorem dL_areEdges_216 : decode cL_areEdges 216 = .ok (.aload_n 0, 1) := by decide +kernel
theorem dL_areEdges_217 : decode cL_areEdges 217 = .ok (.aload_n 0, 1) := by decide +kernel
theorem dL_areEdges_218 : decode cL_areEdges 218 = .ok (.iload 5, 2) := by decide +kernel
theorem dL_areEdges_220 : decode cL_areEdges 220 = .ok (.invokevirtual 41, 3) := by decide +kernel
theorem dL_areEdges_223 : decode cL_areEdges 223 = .ok (.aload_n 1, 1) := by decide +kernel
theorem dL_areEdges_224 : decode cL_areEdges 224 = .ok (.iconst 4, 1) := by decide +kernel
theorem dL_areEdges_225 : decode cL_areEdges 225 = .ok (.iload 6, 2) := by decide +kernel
theorem dL_areEdges_227 : decode cL_areEdges 227 = .ok (.imul, 1) := by decide +kernel
theorem dL_areEdges_228 : decode cL_areEdges 228 = .ok (.iaload, 1) := by decide +kernel
theorem dL_areEdges_229 : decode cL_areEdges 229 = .ok (.aload_n 1, 1) := by decide +kernel
theorem dL_areEdges_230 : decode cL_areEdges 230 = .ok (.iconst 4, 1) := by decide +kernel
theorem dL_areEdges_231 : decode cL_areEdges 231 = .ok (.iload 6, 2) := by decide +kernel
theorem dL_areEdges_233 : decode cL_areEdges 233 = .ok (.imul, 1) := by decide +kernel
theorem dL_areEdges_234 : decode cL_areEdges 234 = .ok (.iconst 1, 1) := by decide +kernel
theorem dL_areEdges_235 : decode cL_areEdges 235 = .ok (.iadd, 1) := by decide +kernel
theorem dL_areEdges_236 : decode cL_areEdges 236 = .ok (.iaload, 1) := by decide +kernel
theorem dL_areEdges_237 : decode cL_areEdges 237 = .ok (.invokestatic 131, 3) := by decide +kernel
theorem dL_areEdges_240 : decode cL_areEdges 240 = .ok (.ifCond .eq 105, 3) := by decide +kernel
theorem dL_areEdges_243 : decode cL_areEdges 243 = .ok (.goto 20, 3) := by decide +kernel
theorem dL_areEdges_246 : decode cL_areEdges 246 = .ok (.aload_n 0, 1) := by decide +kernel
theorem dL_areEdges_247 : decode cL_areEdges 247 = .ok (.iload 5, 2) := by decide +kernel
theorem dL_areEdges_249 : decode cL_areEdges 249 = .ok (.invokevirtual 41, 3) := by decide +kernel
theorem dL_areEdges_252 : decode cL_areEdges 252 = .ok (.aload_n 0, 1) := by decide +kernel
theorem dL_areEdges_253 : decode cL_areEdges 253 = .ok (.iload 5, 2) := by decide +kernel
theorem dL_areEdges_255 : decode cL_areEdges 255 = .ok (.iconst 1, 1) := by decide +kernel
theorem dL_areEdges_256 : decode cL_areEdges 256 = .ok (.isub, 1) := by decide +kernel
theorem dL_areEdges_257 : decode cL_areEdges 257 = .ok (.invokevirtual 44, 3) := by decide +kernel
theorem dL_areEdges_260 : decode cL_areEdges 260 = .ok (.if_icmp .ne 85, 3) := by decide +kernel
theorem dL_areEdges_263 : decode cL_areEdges 263 = .ok (.iload 8, 2) := by decide +kernel
theorem dL_areEdges_265 : decode cL_areEdges 265 = .ok (.ifCond .eq 32, 3) := by decide +kernel
theorem dL_areEdges_268 : decode cL_areEdges 268 = .ok (.aload_n 0, 1) := by decide +kernel
theorem dL_areEdges_269 : decode cL_areEdges 269 = .ok (.aload_n 0, 1) := by decide +kernel
theorem dL_areEdges_270 : decode cL_areEdges 270 = .ok (.iload 5, 2) := by decide +kernel
theorem dL_areEdges_272 : decode cL_areEdges 272 = .ok (.invokevirtual 44, 3) := by decide +kernel
theorem dL_areEdges_275 : decode cL_areEdges 275 = .ok (.aload_n 1, 1) := by decide +kernel
theorem dL_areEdges_276 : decode cL_areEdges 276 = .ok (.iconst 4, 1) := by decide +kernel
theorem dL_areEdges_277 : decode cL_areEdges 277 = .ok (.iload 6, 2) := by decide +kernel
theorem dL_areEdges_279 : decode cL_areEdges 279 = .ok (.imul, 1) := by decide +kernel
theorem dL_areEdges_280 : decode cL_areEdges 280 = .ok (.iconst 2, 1) := by decide +kernel
theorem dL_areEdges_281 : decode cL_areEdges 281 = .ok (.iadd, 1) := by decide +kernel
theorem dL_areEdges_282 : decode cL_areEdges 282 = .ok (.iaload, 1) := by decide +kernel
theorem dL_areEdges_283 : decode cL_areEdges 283 = .ok (.aload_n 1, 1) := by decide +kernel
theorem dL_areEdges_284 : decode cL_areEdges 284 = .ok (.iconst 4, 1) := by decide +kernel
theorem dL_areEdges_285 : decode cL_areEdges 285 = .ok (.iload 6, 2) := by decide +kernel
theorem dL_areEdges_287 : decode cL_areEdges 287 = .ok (.imul, 1) := by decide +kernel
theorem dL_areEdges_288 : decode cL_areEdges 288 = .ok (.iconst 3, 1) := by decide +kernel
theorem dL_areEdges_289 : decode cL_areEdges 289 = .ok (.iadd, 1) := by decide +kernel
theorem dL_areEdges_290 : decode cL_areEdges 290 = .ok (.iaload, 1) := by decide +kernel
theorem dL_areEdges_291 : decode cL_areEdges 291 = .ok (.invokestatic 131, 3) := by decide +kernel
theorem dL_areEdges_294 : decode cL_areEdges 294 = .ok (.ifCond .eq 51, 3) := by decide +kernel
theorem dL_areEdges_297 : decode cL_areEdges 297 = .ok (.aload_n 0, 1) := by decide +kernel
theorem dL_areEdges_298 : decode cL_areEdges 298 = .ok (.iload 5, 2) := by decide +kernel
theorem dL_areEdges_300 : decode cL_areEdges 300 = .ok (.invokevirtual 47, 3) := by decide +kernel
theorem dL_areEdges_303 : decode cL_areEdges 303 = .ok (.ifCond .lt 42, 3) := by decide +kernel
theorem dL_areEdges_306 : decode cL_areEdges 306 = .ok (.aload_n 0, 1) := by decide +kernel
theorem dL_areEdges_307 : decode cL_areEdges 307 = .ok (.iload 5, 2) := by decide +kernel
theorem dL_areEdges_309 : decode cL_areEdges 309 = .ok (.invokevirtual 47, 3) := by decide +kernel
theorem dL_areEdges_312 : decode cL_areEdges 312 = .ok (.aload_n 0, 1) := by decide +kernel
theorem dL_areEdges_313 : decode cL_areEdges 313 = .ok (.invokevirtual 81, 3) := by decide +kernel
theorem dL_areEdges_316 : decode cL_areEdges 316 = .ok (.if_icmp .ge 29, 3) := by decide +kernel
theorem dL_areEdges_319 : decode cL_areEdges 319 = .ok (.aload_n 0, 1) := by decide +kernel
theorem dL_areEdges_320 : decode cL_areEdges 320 = .ok (.iload 5, 2) := by decide +kernel
theorem dL_areEdges_322 : decode cL_areEdges 322 = .ok (.invokevirtual 50, 3) := by decide +kernel
theorem dL_areEdges_325 : decode cL_areEdges 325 = .ok (.ifCond .lt 20, 3) := by decide +kernel
theorem dL_areEdges_328 : decode cL_areEdges 328 = .ok (.aload_n 0, 1) := by decide +kernel
theorem dL_areEdges_329 : decode cL_areEdges 329 = .ok (.iload 5, 2) := by decide +kernel
theorem dL_areEdges_331 : decode cL_areEdges 331 = .ok (.invokevirtual 50, 3) := by decide +kernel
theorem dL_areEdges_334 : decode cL_areEdges 334 = .ok (.aload_n 0, 1) := by decide +kernel
theorem dL_areEdges_335 : decode cL_areEdges 335 = .ok (.invokevirtual 81, 3) := by decide +kernel
theorem dL_areEdges_338 : decode cL_areEdges 338 = .ok (.if_icmp .ge 7, 3) := by decide +kernel
theorem dL_areEdges_341 : decode cL_areEdges 341 = .ok (.iconst 1, 1) := by decide +kernel
theorem dL_areEdges_342 : decode cL_areEdges 342 = .ok (.goto 4, 3) := by decide +kernel
theorem dL_areEdges_345 : decode cL_areEdges 345 = .ok (.iconst 0, 1) := by decide +kernel
theorem dL_areEdges_346 : decode cL_areEdges 346 = .ok (.istore_n 3, 1) := by decide +kernel
theorem dL_areEdges_347 : decode cL_areEdges 347 = .ok (.iload 6, 2) := by decide +kernel
theorem dL_areEdges_349 : decode cL_areEdges 349 = .ok (.istore 4, 2) := by decide +kernel
theorem dL_areEdges_351 : decode cL_areEdges 351 = .ok (.iinc 5 1, 3) := by decide +kernel
theorem dL_areEdges_354 : decode cL_areEdges 354 = .ok (.goto (-307), 3) := by decide +kernel
theorem dL_areEdges_357 : decode cL_areEdges 357 = .ok (.iload_n 3, 1) := by decide +kernel
theorem dL_areEdges_358 : decode cL_areEdges 358 = .ok (.ifCond .eq 17, 3) := by decide +kernel
theorem dL_areEdges_361 : decode cL_areEdges 361 = .ok (.iload 4, 2) := by decide +kernel
theorem dL_areEdges_363 : decode cL_areEdges 363 = .ok (.aload_n 2, 1) := by decide +kernel
theorem dL_areEdges_364 : decode cL_areEdges 364 = .ok (.iconst 0, 1) := by decide +kernel
theorem dL_areEdges_365 : decode cL_areEdges 365 = .ok (.iaload, 1) := by decide +kernel
theorem dL_areEdges_366 : decode cL_areEdges 366 = .ok (.iconst 1, 1) := by decide +kernel
theorem dL_areEdges_367 : decode cL_areEdges 367 = .ok (.isub, 1) := by decide +kernel
theorem dL_areEdges_368 : decode cL_areEdges 368 = .ok (.if_icmp .ne 7, 3) := by decide +kernel
theorem dL_areEdges_371 : decode cL_areEdges 371 = .ok (.iconst 1, 1) := by decide +kernel
theorem dL_areEdges_372 : decode cL_areEdges 372 = .ok (.goto 4, 3) := by decide +kernel
theorem dL_areEdges_375 : decode cL_areEdges 375 = .ok (.iconst 0, 1) := by decide +kernel
theorem dL_areEdges_376 : decode cL_areEdges 376 = .ok (.ireturn, 1) := by decide +kernel
def wL_areEdges : List Cond := Cond.code yL_areEdges cL_areEdges 9 (some .boolean) :: WA
def f_L_areEdges_b357 (F : Nat) (S : CS) (D : CD) (x2 : Nat) (x3 : Int32) (x4 : Int32) : Option (CD × Int32) := (if x3 = 0 then okB 0 (some (D, 0)) else ckK S x2 8 <| rdI (S.2.2.2 x2) (D.2.2.1 x2) 0 fun t4 => (if x4 = (t4 - 1) then okB 1 (some (D, 1)) else okB 0 (some (D, 0))))
def f_L_areEdges_b346 (F : Nat) (S : CS) (k47 : CD → Nat → Nat → Nat → Int32 → Int32 → Int32 → Option (CD × Int32)) (D : CD) (x0 : Nat) (x1 : Nat) (x2 : Nat) (x5 : Int32) (x6 : Int32) (s0 : Int32) : Option (CD × Int32) := k47 D x0 x1 x2 s0 x6 (x5 + 1)
def f_L_areEdges_b297 (F : Nat) (S : CS) (k47 : CD → Nat → Nat → Nat → Int32 → Int32 → Int32 → Option (CD × Int32)) (D : CD) (x0 : Nat) (x1 : Nat) (x2 : Nat) (x5 : Int32) (x6 : Int32) : Option (CD × Int32) := ckK S x0 6 <| cal (f_X6_leftOf F S D x0 x5) fun t3 => (if t3 < 0 then f_L_areEdges_b346 F S k47 D x0 x1 x2 x5 x6 0 else cal (f_X6_leftOf F S D x0 x5) fun t6 => cal (f_X6_faces F S D x0) fun t8 => (if t8 ≤ t6 then f_L_areEdges_b346 F S k47 D x0 x1 x2 x5 x6 0 else cal (f_X6_rightOf F S D x0 x5) fun t11 => (if t11 < 0 then f_L_areEdges_b346 F S k47 D x0 x1 x2 x5 x6 0 else cal (f_X6_rightOf F S D x0 x5) fun t14 => cal (f_X6_faces F S D x0) fun t16 => (if t16 ≤ t14 then f_L_areEdges_b346 F S k47 D x0 x1 x2 x5 x6 0 else f_L_areEdges_b346 F S k47 D x0 x1 x2 x5 x6 1))))
def f_L_areEdges_b263 (F : Nat) (S : CS) (k47 : CD → Nat → Nat → Nat → Int32 → Int32 → Int32 → Option (CD × Int32)) (D : CD) (x0 : Nat) (x1 : Nat) (x2 : Nat) (x5 : Int32) (x6 : Int32) (x8 : Int32) : Option (CD × Int32) := (if x8 = 0 then f_L_areEdges_b297 F S k47 D x0 x1 x2 x5 x6 else ckK S x0 6 <| cal (f_X6_to F S D x0 x5) fun t4 => ckK S x1 8 <| rdI (S.2.2.2 x1) (D.2.2.1 x1) ((4 * x6) + 2) fun t6 => rdI (S.2.2.2 x1) (D.2.2.1 x1) ((4 * x6) + 3) fun t9 => cal (f_L_isEnd F S D x0 t4 t6 t9) fun t13 => (if t13 = 0 then f_L_areEdges_b346 F S k47 D x0 x1 x2 x5 x6 0 else f_L_areEdges_b297 F S k47 D x0 x1 x2 x5 x6))
def f_L_areEdges_b140 (F : Nat) (S : CS) (k47 : CD → Nat → Nat → Nat → Int32 → Int32 → Int32 → Option (CD × Int32)) (D : CD) (x0 : Nat) (x1 : Nat) (x2 : Nat) (x5 : Int32) (x6 : Int32) (x7 : Int32) (x8 : Int32) (s0 : Int32) (s1 : Int32) : Option (CD × Int32) := (if s1 = s0 then ckK S x2 8 <| rdI (S.2.2.2 x2) (D.2.2.1 x2) 0 fun t3 => (if t3 ≤ x6 then f_L_areEdges_b346 F S k47 D x0 x1 x2 x5 x6 0 else ckK S x0 6 <| cal (f_X6_from F S D x0 x5) fun t9 => cal (f_X6_to F S D x0 x5) fun t11 => (if t11 ≤ t9 then f_L_areEdges_b346 F S k47 D x0 x1 x2 x5 x6 0 else cal (f_X6_to F S D x0 x5) fun t14 => cal (f_X6_vertices F S D x0) fun t16 => (if t16 ≤ t14 then f_L_areEdges_b346 F S k47 D x0 x1 x2 x5 x6 0 else cal (f_X6_from F S D x0 x5) fun t19 => cal (f_L_isOn F S D x0 x1 x6 t19) fun t21 => (if t21 = 0 then f_L_areEdges_b346 F S k47 D x0 x1 x2 x5 x6 0 else cal (f_X6_to F S D x0 x5) fun t24 => cal (f_L_isOn F S D x0 x1 x6 t24) fun t26 => (if t26 = 0 then f_L_areEdges_b346 F S k47 D x0 x1 x2 x5 x6 0 else (if x7 = 0 then cal (f_X6_from F S D x0 x5) fun t30 => cal (f_X6_to F S D x0 (x5 - 1)) fun t32 => (if t30 = t32 then f_L_areEdges_b263 F S k47 D x0 x1 x2 x5 x6 x8 else f_L_areEdges_b346 F S k47 D x0 x1 x2 x5 x6 0) else cal (f_X6_from F S D x0 x5) fun t35 => ckK S x1 8 <| rdI (S.2.2.2 x1) (D.2.2.1 x1) (4 * x6) fun t37 => rdI (S.2.2.2 x1) (D.2.2.1 x1) ((4 * x6) + 1) fun t40 => cal (f_L_isEnd F S D x0 t35 t37 t40) fun t44 => (if t44 = 0 then f_L_areEdges_b346 F S k47 D x0 x1 x2 x5 x6 0 else f_L_areEdges_b263 F S k47 D x0 x1 x2 x5 x6 x8))))))) else f_L_areEdges_b346 F S k47 D x0 x1 x2 x5 x6 0)
def f_L_areEdges_b122 (F : Nat) (S : CS) (k47 : CD → Nat → Nat → Nat → Int32 → Int32 → Int32 → Option (CD × Int32)) (D : CD) (x0 : Nat) (x1 : Nat) (x2 : Nat) (x4 : Int32) (x5 : Int32) (x6 : Int32) (x7 : Int32) (s0 : Int32) : Option (CD × Int32) := (if x7 = 0 then f_L_areEdges_b140 F S k47 D x0 x1 x2 x5 x6 x7 s0 x4 x6 else f_L_areEdges_b140 F S k47 D x0 x1 x2 x5 x6 x7 s0 (x4 + 1) x6)
def f_L_areEdges_b91 (F : Nat) (S : CS) (k47 : CD → Nat → Nat → Nat → Int32 → Int32 → Int32 → Option (CD × Int32)) (D : CD) (x0 : Nat) (x1 : Nat) (x2 : Nat) (x4 : Int32) (x5 : Int32) (x6 : Int32) (s0 : Int32) : Option (CD × Int32) := ckK S x0 6 <| cal (f_X6_edges F S D x0) fun t3 => (if x5 = (t3 - 1) then f_L_areEdges_b122 F S k47 D x0 x1 x2 x4 x5 x6 s0 1 else cal (f_X6_segmentOf F S D x0 (x5 + 1)) fun t6 => (if t6 = x6 then f_L_areEdges_b122 F S k47 D x0 x1 x2 x4 x5 x6 s0 0 else f_L_areEdges_b122 F S k47 D x0 x1 x2 x4 x5 x6 s0 1))
def f_L_areEdges_L47 (F : Nat) (S : CS) : Nat → CD → Nat → Nat → Nat → Int32 → Int32 → Int32 → Option (CD × Int32)
  | 0, _, _, _, _, _, _, _ => none
  | n47 + 1, D, x0, x1, x2, x3, x4, x5 => ckK S x0 6 <| cal (f_X6_edges F S D x0) fun t3 => (if t3 ≤ x5 then f_L_areEdges_b357 F S D x2 x3 x4 else (if x3 = 0 then f_L_areEdges_b357 F S D x2 x3 x4 else cal (f_X6_segmentOf F S D x0 x5) fun t7 => (if x5 = 0 then f_L_areEdges_b91 F S ((f_L_areEdges_L47 F S n47)) D x0 x1 x2 x4 x5 t7 1 else cal (f_X6_segmentOf F S D x0 (x5 - 1)) fun t10 => (if t10 = t7 then f_L_areEdges_b91 F S ((f_L_areEdges_L47 F S n47)) D x0 x1 x2 x4 x5 t7 0 else f_L_areEdges_b91 F S ((f_L_areEdges_L47 F S n47)) D x0 x1 x2 x4 x5 t7 1))))
def f_L_areEdges_b40 (F : Nat) (S : CS) (D : CD) (x0 : Nat) (x1 : Nat) (x2 : Nat) (s0 : Int32) : Option (CD × Int32) := f_L_areEdges_L47 F S F D x0 x1 x2 s0 ((-1)) 0
def f_L_areEdges (F : Nat) (S : CS) (D : CD) (a1 : Nat) (a2 : Nat) (a3 : Nat) : Option (CD × Int32) := ckK S a3 8 <| rdI (S.2.2.2 a3) (D.2.2.1 a3) 0 fun t2 => ckK S a1 6 <| cal (f_X6_edges F S D a1) fun t7 => caM (f_L_of F S D a1 (6 + (t2 - t2 / 5 * 5)) t7) fun D9 t10 => (if t10 = ((-601)) then caM (f_L_of F S D9 a1 8 ((-1))) fun D13 t14 => (if t14 = ((-601)) then f_L_areEdges_b40 F S D13 a1 a2 a3 1 else f_L_areEdges_b40 F S D13 a1 a2 a3 0) else f_L_areEdges_b40 F S D9 a1 a2 a3 0)
set_option maxRecDepth 100000 in
set_option maxHeartbeats 4000000 in
theorem m_L_areEdges (l : Launch) (hfl : l.stackTraces = false) (G : cG) (F : Nat) (S : CS) (z9 : Nat × Nat) (D D2 : CD) (a1 : Nat) (a2 : Nat) (a3 : Nat) (r : Int32) (h : f_L_areEdges F S D a1 a2 a3 = some (D2, r)) : lMI l yL_areEdges wL_areEdges ({ frames := 11, cells := 2, slots := 12, locals := 430 }) G S z9 [.ref a1, .ref a2, .ref a3] D D2 r 2 12 := by
  refine lBody (cc := cL_areEdges) (maxL := 9) (ret := (some .boolean)) (by decide) rfl rfl ?_
  intro sz p e s m below meth c hC hv
  have hC0 := hC
  obtain ⟨hx, hb, -, hts, hown, -, hml, -, -, -⟩ := hC0
  have hP := hv.1.1.2.1
  have hv := lPr_of hv
  have hS : va_S (cA G S sz) s.heap s.heap [] := va_S.rf
  have b357 : ∀ (H : Heap) (locs : List Loc) (ls : Array Slot) (D : CD) (x2 : Nat) (x3 : Int32) (x4 : Int32), va_P G.1 vwCl (cW G S D) H → va_S (cA G S sz) s.heap H locs → lv_has ls 9 [(2, .ref x2), (3, .int x3), (4, .int x4)] → f_L_areEdges_b357 F S D x2 x3 x4 = some (D2, r) → W p l e (headSpec wL_areEdges ({ frames := 11, cells := 2, slots := 12, locals := 430 })).room s m ([.ref a1, .ref a2, .ref a3] : List Value).toArray below meth c H locs 2 12 (lQI below G S D2 sz ([.ref a1, .ref a2, .ref a3] : List Value).toArray s r 2 12) (F0 m 357 ls []) := by
    intro H locs ls D x2 x3 x4 hP hS hl h
    unfold f_L_areEdges_b357 at h
    refine lv_iload_n hx hb dL_areEdges_357 rfl (lv_at hl 1 rfl) ?_
    refine lv_if_eq (tgt := 375) hx hb dL_areEdges_358 (by decide) (fun u1 => ?_) (fun u1 => ?_)
    · have h := ite_t u1 h
      refine lv_iconst (v := 0) hx hb dL_areEdges_375 (by decide) ?_
      obtain ⟨z2, h⟩ := okB_el h
      cases h
      exact g_zret hC hP hS z2 rfl (Nat.le_of_ble_eq_true rfl) (Nat.le_of_ble_eq_true rfl) dL_areEdges_376
    · have h := ite_f u1 h
      refine lv_iload hx hb dL_areEdges_361 (lv_at hl 2 rfl) ?_
      refine lv_aload_n hx hb dL_areEdges_363 rfl (lv_at hl 0 rfl) ?_
      refine lv_iconst (v := 0) hx hb dL_areEdges_364 (by decide) ?_
      obtain ⟨z3, h⟩ := ckK_el h
      obtain ⟨y5, t4, e6, h⟩ := rdI_el h
      refine g_ild hC hP z3.1 z3.2 y5 e6 dL_areEdges_365 ?_
      refine lv_iconst (v := 1) hx hb dL_areEdges_366 (by decide) ?_
      refine lv_isub hx hb dL_areEdges_367 ?_
      refine lv_icmp_ne (tgt := 375) hx hb dL_areEdges_368 (by decide) (fun u7 => ?_) (fun u7 => ?_)
      · have h := ite_f u7 h
        refine lv_iconst (v := 0) hx hb dL_areEdges_375 (by decide) ?_
        obtain ⟨z8, h⟩ := okB_el h
        cases h
        exact g_zret hC hP hS z8 rfl (Nat.le_of_ble_eq_true rfl) (Nat.le_of_ble_eq_true rfl) dL_areEdges_376
      · have h := ite_t u7 h
        refine lv_iconst (v := 1) hx hb dL_areEdges_371 (by decide) ?_
        refine lv_goto (tgt := 376) hx hb dL_areEdges_372 (by decide) ?_
        obtain ⟨z9, h⟩ := okB_el h
        cases h
        exact g_zret hC hP hS z9 rfl (Nat.le_of_ble_eq_true rfl) (Nat.le_of_ble_eq_true rfl) dL_areEdges_376
  have L47 : ∀ (n47 : Nat) (H : Heap) (locs : List Loc) (ls : Array Slot) (D : CD) (x0 : Nat) (x1 : Nat) (x2 : Nat) (x3 : Int32) (x4 : Int32) (x5 : Int32), va_P G.1 vwCl (cW G S D) H → va_S (cA G S sz) s.heap H locs → lv_has ls 9 [(0, .ref x0), (1, .ref x1), (2, .ref x2), (3, .int x3), (4, .int x4), (5, .int x5)] → f_L_areEdges_L47 F S n47 D x0 x1 x2 x3 x4 x5 = some (D2, r) → W p l e (headSpec wL_areEdges ({ frames := 11, cells := 2, slots := 12, locals := 430 })).room s m ([.ref a1, .ref a2, .ref a3] : List Value).toArray below meth c H locs 2 12 (lQI below G S D2 sz ([.ref a1, .ref a2, .ref a3] : List Value).toArray s r 2 12) (F0 m 47 ls []) := by
    intro n47
    induction n47 with
    | zero =>
      intro H locs ls D x0 x1 x2 x3 x4 x5 hP hS hl h
      rw [f_L_areEdges_L47] at h; cases h
    | succ n47 ih47 =>
      have b346 : ∀ (H : Heap) (locs : List Loc) (ls : Array Slot) (D : CD) (x0 : Nat) (x1 : Nat) (x2 : Nat) (x5 : Int32) (x6 : Int32) (s0 : Int32), va_P G.1 vwCl (cW G S D) H → va_S (cA G S sz) s.heap H locs → lv_has ls 9 [(0, .ref x0), (1, .ref x1), (2, .ref x2), (5, .int x5), (6, .int x6)] → f_L_areEdges_b346 F S ((f_L_areEdges_L47 F S n47)) D x0 x1 x2 x5 x6 s0 = some (D2, r) → W p l e (headSpec wL_areEdges ({ frames := 11, cells := 2, slots := 12, locals := 430 })).room s m ([.ref a1, .ref a2, .ref a3] : List Value).toArray below meth c H locs 2 12 (lQI below G S D2 sz ([.ref a1, .ref a2, .ref a3] : List Value).toArray s r 2 12) (F0 m 346 ls [.int s0]) := by
        intro H locs ls D x0 x1 x2 x5 x6 s0 hP hS hl h
        unfold f_L_areEdges_b346 at h
        refine lv_istore_n (lv' := [(3, .int s0), (0, .ref x0), (1, .ref x1), (2, .ref x2), (5, .int x5), (6, .int x6)]) hx hb dL_areEdges_346 rfl hl (by decide) rfl (fun ls hl => ?_)
        refine lv_iload hx hb dL_areEdges_347 (lv_at hl 5 rfl) ?_
        refine lv_istore (lv' := [(4, .int x6), (3, .int s0), (0, .ref x0), (1, .ref x1), (2, .ref x2), (5, .int x5), (6, .int x6)]) hx hb dL_areEdges_349 hl (by decide) rfl (fun ls hl => ?_)
        refine lv_iinc (v := x5 + 1) (lv' := [(5, .int (x5 + 1)), (4, .int x6), (3, .int s0), (0, .ref x0), (1, .ref x1), (2, .ref x2), (6, .int x6)]) hx hb dL_areEdges_351 hl (k := 5) rfl rfl (by decide) rfl (fun ls hl => ?_)
        refine lv_goto (tgt := 47) hx hb dL_areEdges_354 (by decide) ?_
        refine W.widen (k := 2) (n := 12) (Nat.le_of_ble_eq_true rfl) (Nat.le_of_ble_eq_true rfl) ?_
        exact ih47 _ _ _ D x0 x1 x2 s0 x6 (x5 + 1) hP hS (lv_sub hl [3, 4, 5, 2, 1, 0] rfl) h
      have b297 : ∀ (H : Heap) (locs : List Loc) (ls : Array Slot) (D : CD) (x0 : Nat) (x1 : Nat) (x2 : Nat) (x5 : Int32) (x6 : Int32), va_P G.1 vwCl (cW G S D) H → va_S (cA G S sz) s.heap H locs → lv_has ls 9 [(0, .ref x0), (1, .ref x1), (2, .ref x2), (5, .int x5), (6, .int x6)] → f_L_areEdges_b297 F S ((f_L_areEdges_L47 F S n47)) D x0 x1 x2 x5 x6 = some (D2, r) → W p l e (headSpec wL_areEdges ({ frames := 11, cells := 2, slots := 12, locals := 430 })).room s m ([.ref a1, .ref a2, .ref a3] : List Value).toArray below meth c H locs 2 12 (lQI below G S D2 sz ([.ref a1, .ref a2, .ref a3] : List Value).toArray s r 2 12) (F0 m 297 ls []) := by
        intro H locs ls D x0 x1 x2 x5 x6 hP hS hl h
        unfold f_L_areEdges_b297 at h
        refine lv_aload_n hx hb dL_areEdges_297 rfl (lv_at hl 0 rfl) ?_
        refine lv_iload hx hb dL_areEdges_298 (lv_at hl 3 rfl) ?_
        obtain ⟨z1, h⟩ := ckK_el h
        obtain ⟨t3, e2, h⟩ := cal_el h
        refine g_VI (As := [.int x5]) (rest := []) hC hP hS z1.1 (cE_6 z1.2) (C := RX6) (T := TX6) (N := 8) rfl (m_X6_leftOf l G F S D x0 x5 t3 e2) (cwV 1 hts (gVA wa_176 wa_177 wa_178 (hWCA _ wc_66) (hWCA _ wc_110) hWCA) rfl rfl rfl (by decide +kernel) ⟨Nat.le_of_ble_eq_true rfl, Nat.le_of_ble_eq_true rfl⟩) rfl hl.1 rfl (Nat.le_of_ble_eq_true rfl) dL_areEdges_300 ⟨Nat.le_of_ble_eq_true rfl, Nat.le_of_ble_eq_true rfl⟩ (fun H locs hP hS => ?_)
        refine lv_if_lt (tgt := 345) hx hb dL_areEdges_303 (by decide) (fun u4 => ?_) (fun u4 => ?_)
        · have h := ite_t u4 h
          refine lv_iconst (v := 0) hx hb dL_areEdges_345 (by decide) ?_
          refine W.widen (k := 2) (n := 12) (Nat.le_of_ble_eq_true rfl) (Nat.le_of_ble_eq_true rfl) ?_
          exact b346 _ _ _ D x0 x1 x2 x5 x6 0 hP hS (lv_sub hl [0, 1, 2, 3, 4] rfl) h
        · have h := ite_f u4 h
          refine lv_aload_n hx hb dL_areEdges_306 rfl (lv_at hl 0 rfl) ?_
          refine lv_iload hx hb dL_areEdges_307 (lv_at hl 3 rfl) ?_
          obtain ⟨t6, e5, h⟩ := cal_el h
          refine g_VI (As := [.int x5]) (rest := []) hC hP hS z1.1 (cE_6 z1.2) (C := RX6) (T := TX6) (N := 8) rfl (m_X6_leftOf l G F S D x0 x5 t6 e5) (cwV 1 hts (gVA wa_176 wa_177 wa_178 (hWCA _ wc_66) (hWCA _ wc_110) hWCA) rfl rfl rfl (by decide +kernel) ⟨Nat.le_of_ble_eq_true rfl, Nat.le_of_ble_eq_true rfl⟩) rfl hl.1 rfl (Nat.le_of_ble_eq_true rfl) dL_areEdges_309 ⟨Nat.le_of_ble_eq_true rfl, Nat.le_of_ble_eq_true rfl⟩ (fun H locs hP hS => ?_)
          refine lv_aload_n hx hb dL_areEdges_312 rfl (lv_at hl 0 rfl) ?_
          obtain ⟨t8, e7, h⟩ := cal_el h
          refine g_VI (As := []) (rest := [.int t6]) hC hP hS z1.1 (cE_6 z1.2) (C := RX6) (T := TX6) (N := 8) rfl (m_X6_faces l G F S D x0 t8 e7) (cwV 0 hts (gVA wa_217 wa_218 wa_219 (hWCA _ wc_66) (hWCA _ wc_77) hWCA) rfl rfl rfl (by decide +kernel) ⟨Nat.le_of_ble_eq_true rfl, Nat.le_of_ble_eq_true rfl⟩) rfl hl.1 rfl (Nat.le_of_ble_eq_true rfl) dL_areEdges_313 ⟨Nat.le_of_ble_eq_true rfl, Nat.le_of_ble_eq_true rfl⟩ (fun H locs hP hS => ?_)
          refine lv_icmp_ge (tgt := 345) hx hb dL_areEdges_316 (by decide) (fun u9 => ?_) (fun u9 => ?_)
          · have h := ite_t u9 h
            refine lv_iconst (v := 0) hx hb dL_areEdges_345 (by decide) ?_
            refine W.widen (k := 2) (n := 12) (Nat.le_of_ble_eq_true rfl) (Nat.le_of_ble_eq_true rfl) ?_
            exact b346 _ _ _ D x0 x1 x2 x5 x6 0 hP hS (lv_sub hl [0, 1, 2, 3, 4] rfl) h
          · have h := ite_f u9 h
            refine lv_aload_n hx hb dL_areEdges_319 rfl (lv_at hl 0 rfl) ?_
            refine lv_iload hx hb dL_areEdges_320 (lv_at hl 3 rfl) ?_
            obtain ⟨t11, e10, h⟩ := cal_el h
            refine g_VI (As := [.int x5]) (rest := []) hC hP hS z1.1 (cE_6 z1.2) (C := RX6) (T := TX6) (N := 8) rfl (m_X6_rightOf l G F S D x0 x5 t11 e10) (cwV 1 hts (gVA wa_179 wa_180 wa_181 (hWCA _ wc_66) (hWCA _ wc_111) hWCA) rfl rfl rfl (by decide +kernel) ⟨Nat.le_of_ble_eq_true rfl, Nat.le_of_ble_eq_true rfl⟩) rfl hl.1 rfl (Nat.le_of_ble_eq_true rfl) dL_areEdges_322 ⟨Nat.le_of_ble_eq_true rfl, Nat.le_of_ble_eq_true rfl⟩ (fun H locs hP hS => ?_)
            refine lv_if_lt (tgt := 345) hx hb dL_areEdges_325 (by decide) (fun u12 => ?_) (fun u12 => ?_)
            · have h := ite_t u12 h
              refine lv_iconst (v := 0) hx hb dL_areEdges_345 (by decide) ?_
              refine W.widen (k := 2) (n := 12) (Nat.le_of_ble_eq_true rfl) (Nat.le_of_ble_eq_true rfl) ?_
              exact b346 _ _ _ D x0 x1 x2 x5 x6 0 hP hS (lv_sub hl [0, 1, 2, 3, 4] rfl) h
            · have h := ite_f u12 h
              refine lv_aload_n hx hb dL_areEdges_328 rfl (lv_at hl 0 rfl) ?_
              refine lv_iload hx hb dL_areEdges_329 (lv_at hl 3 rfl) ?_
              obtain ⟨t14, e13, h⟩ := cal_el h
              refine g_VI (As := [.int x5]) (rest := []) hC hP hS z1.1 (cE_6 z1.2) (C := RX6) (T := TX6) (N := 8) rfl (m_X6_rightOf l G F S D x0 x5 t14 e13) (cwV 1 hts (gVA wa_179 wa_180 wa_181 (hWCA _ wc_66) (hWCA _ wc_111) hWCA) rfl rfl rfl (by decide +kernel) ⟨Nat.le_of_ble_eq_true rfl, Nat.le_of_ble_eq_true rfl⟩) rfl hl.1 rfl (Nat.le_of_ble_eq_true rfl) dL_areEdges_331 ⟨Nat.le_of_ble_eq_true rfl, Nat.le_of_ble_eq_true rfl⟩ (fun H locs hP hS => ?_)
              refine lv_aload_n hx hb dL_areEdges_334 rfl (lv_at hl 0 rfl) ?_
              obtain ⟨t16, e15, h⟩ := cal_el h
              refine g_VI (As := []) (rest := [.int t14]) hC hP hS z1.1 (cE_6 z1.2) (C := RX6) (T := TX6) (N := 8) rfl (m_X6_faces l G F S D x0 t16 e15) (cwV 0 hts (gVA wa_217 wa_218 wa_219 (hWCA _ wc_66) (hWCA _ wc_77) hWCA) rfl rfl rfl (by decide +kernel) ⟨Nat.le_of_ble_eq_true rfl, Nat.le_of_ble_eq_true rfl⟩) rfl hl.1 rfl (Nat.le_of_ble_eq_true rfl) dL_areEdges_335 ⟨Nat.le_of_ble_eq_true rfl, Nat.le_of_ble_eq_true rfl⟩ (fun H locs hP hS => ?_)
              refine lv_icmp_ge (tgt := 345) hx hb dL_areEdges_338 (by decide) (fun u17 => ?_) (fun u17 => ?_)
              · have h := ite_t u17 h
                refine lv_iconst (v := 0) hx hb dL_areEdges_345 (by decide) ?_
                refine W.widen (k := 2) (n := 12) (Nat.le_of_ble_eq_true rfl) (Nat.le_of_ble_eq_true rfl) ?_
                exact b346 _ _ _ D x0 x1 x2 x5 x6 0 hP hS (lv_sub hl [0, 1, 2, 3, 4] rfl) h
              · have h := ite_f u17 h
                refine lv_iconst (v := 1) hx hb dL_areEdges_341 (by decide) ?_
                refine lv_goto (tgt := 346) hx hb dL_areEdges_342 (by decide) ?_
                refine W.widen (k := 2) (n := 12) (Nat.le_of_ble_eq_true rfl) (Nat.le_of_ble_eq_true rfl) ?_
                exact b346 _ _ _ D x0 x1 x2 x5 x6 1 hP hS (lv_sub hl [0, 1, 2, 3, 4] rfl) h
      have b263 : ∀ (H : Heap) (locs : List Loc) (ls : Array Slot) (D : CD) (x0 : Nat) (x1 : Nat) (x2 : Nat) (x5 : Int32) (x6 : Int32) (x8 : Int32), va_P G.1 vwCl (cW G S D) H → va_S (cA G S sz) s.heap H locs → lv_has ls 9 [(0, .ref x0), (1, .ref x1), (2, .ref x2), (5, .int x5), (6, .int x6), (8, .int x8)] → f_L_areEdges_b263 F S ((f_L_areEdges_L47 F S n47)) D x0 x1 x2 x5 x6 x8 = some (D2, r) → W p l e (headSpec wL_areEdges ({ frames := 11, cells := 2, slots := 12, locals := 430 })).room s m ([.ref a1, .ref a2, .ref a3] : List Value).toArray below meth c H locs 2 12 (lQI below G S D2 sz ([.ref a1, .ref a2, .ref a3] : List Value).toArray s r 2 12) (F0 m 263 ls []) := by
        intro H locs ls D x0 x1 x2 x5 x6 x8 hP hS hl h
        unfold f_L_areEdges_b263 at h
        refine lv_iload hx hb dL_areEdges_263 (lv_at hl 5 rfl) ?_
        refine lv_if_eq (tgt := 297) hx hb dL_areEdges_265 (by decide) (fun u1 => ?_) (fun u1 => ?_)
        · have h := ite_t u1 h
          refine W.widen (k := 2) (n := 12) (Nat.le_of_ble_eq_true rfl) (Nat.le_of_ble_eq_true rfl) ?_
          exact b297 _ _ _ D x0 x1 x2 x5 x6 hP hS (lv_sub hl [0, 1, 2, 3, 4] rfl) h
        · have h := ite_f u1 h
          refine lv_aload_n hx hb dL_areEdges_268 rfl (lv_at hl 0 rfl) ?_
          refine lv_aload_n hx hb dL_areEdges_269 rfl (lv_at hl 0 rfl) ?_
          refine lv_iload hx hb dL_areEdges_270 (lv_at hl 3 rfl) ?_
          obtain ⟨z2, h⟩ := ckK_el h
          obtain ⟨t4, e3, h⟩ := cal_el h
          refine g_VI (As := [.int x5]) (rest := [.ref x0]) hC hP hS z2.1 (cE_6 z2.2) (C := RX6) (T := TX6) (N := 8) rfl (m_X6_to l G F S D x0 x5 t4 e3) (cwV 1 hts (gVA wa_173 wa_174 wa_175 (hWCA _ wc_66) (hWCA _ wc_109) hWCA) rfl rfl rfl (by decide +kernel) ⟨Nat.le_of_ble_eq_true rfl, Nat.le_of_ble_eq_true rfl⟩) rfl hl.1 rfl (Nat.le_of_ble_eq_true rfl) dL_areEdges_272 ⟨Nat.le_of_ble_eq_true rfl, Nat.le_of_ble_eq_true rfl⟩ (fun H locs hP hS => ?_)
          refine lv_aload_n hx hb dL_areEdges_275 rfl (lv_at hl 1 rfl) ?_
          refine lv_iconst (v := 4) hx hb dL_areEdges_276 (by decide) ?_
          refine lv_iload hx hb dL_areEdges_277 (lv_at hl 4 rfl) ?_
          refine lv_imul hx hb dL_areEdges_279 ?_
          refine lv_iconst (v := 2) hx hb dL_areEdges_280 (by decide) ?_
          refine lv_iadd hx hb dL_areEdges_281 ?_
          obtain ⟨z5, h⟩ := ckK_el h
          obtain ⟨y7, t6, e8, h⟩ := rdI_el h
          refine g_ild hC hP z5.1 z5.2 y7 e8 dL_areEdges_282 ?_
          refine lv_aload_n hx hb dL_areEdges_283 rfl (lv_at hl 1 rfl) ?_
          refine lv_iconst (v := 4) hx hb dL_areEdges_284 (by decide) ?_
          refine lv_iload hx hb dL_areEdges_285 (lv_at hl 4 rfl) ?_
          refine lv_imul hx hb dL_areEdges_287 ?_
          refine lv_iconst (v := 3) hx hb dL_areEdges_288 (by decide) ?_
          refine lv_iadd hx hb dL_areEdges_289 ?_
          obtain ⟨y10, t9, e11, h⟩ := rdI_el h
          refine g_ild hC hP z5.1 z5.2 y10 e11 dL_areEdges_290 ?_
          obtain ⟨t13, e12, h⟩ := cal_el h
          refine g_SI (As := [.ref x0, .int t4, .int t6, .int t9]) (rest := []) hC hP hS (m_L_isEnd l G F S D x0 t4 t6 t9 t13 e12) (va_cwS 4 hts (gSA wa_245 wa_246 wa_233 wa_243 (fun w h => h)) rfl rfl rfl (by decide +kernel) ⟨Nat.le_of_ble_eq_true rfl, Nat.le_of_ble_eq_true rfl⟩) rfl hl.1 rfl (Nat.le_of_ble_eq_true rfl) dL_areEdges_291 ⟨Nat.le_of_ble_eq_true rfl, Nat.le_of_ble_eq_true rfl⟩ (fun H locs hP hS => ?_)
          refine lv_if_eq (tgt := 345) hx hb dL_areEdges_294 (by decide) (fun u14 => ?_) (fun u14 => ?_)
          · have h := ite_t u14 h
            refine lv_iconst (v := 0) hx hb dL_areEdges_345 (by decide) ?_
            refine W.widen (k := 2) (n := 12) (Nat.le_of_ble_eq_true rfl) (Nat.le_of_ble_eq_true rfl) ?_
            exact b346 _ _ _ D x0 x1 x2 x5 x6 0 hP hS (lv_sub hl [0, 1, 2, 3, 4] rfl) h
          · have h := ite_f u14 h
            refine W.widen (k := 2) (n := 12) (Nat.le_of_ble_eq_true rfl) (Nat.le_of_ble_eq_true rfl) ?_
            exact b297 _ _ _ D x0 x1 x2 x5 x6 hP hS (lv_sub hl [0, 1, 2, 3, 4] rfl) h
      have b140 : ∀ (H : Heap) (locs : List Loc) (ls : Array Slot) (D : CD) (x0 : Nat) (x1 : Nat) (x2 : Nat) (x5 : Int32) (x6 : Int32) (x7 : Int32) (x8 : Int32) (s0 : Int32) (s1 : Int32), va_P G.1 vwCl (cW G S D) H → va_S (cA G S sz) s.heap H locs → lv_has ls 9 [(0, .ref x0), (1, .ref x1), (2, .ref x2), (5, .int x5), (6, .int x6), (7, .int x7), (8, .int x8)] → f_L_areEdges_b140 F S ((f_L_areEdges_L47 F S n47)) D x0 x1 x2 x5 x6 x7 x8 s0 s1 = some (D2, r) → W p l e (headSpec wL_areEdges ({ frames := 11, cells := 2, slots := 12, locals := 430 })).room s m ([.ref a1, .ref a2, .ref a3] : List Value).toArray below meth c H locs 2 12 (lQI below G S D2 sz ([.ref a1, .ref a2, .ref a3] : List Value).toArray s r 2 12) (F0 m 140 ls [.int s0, .int s1]) := by
        intro H locs ls D x0 x1 x2 x5 x6 x7 x8 s0 s1 hP hS hl h
        unfold f_L_areEdges_b140 at h
        refine lv_icmp_ne (tgt := 345) hx hb dL_areEdges_140 (by decide) (fun u1 => ?_) (fun u1 => ?_)
        · have h := ite_f u1 h
          refine lv_iconst (v := 0) hx hb dL_areEdges_345 (by decide) ?_
          refine W.widen (k := 2) (n := 12) (Nat.le_of_ble_eq_true rfl) (Nat.le_of_ble_eq_true rfl) ?_
          exact b346 _ _ _ D x0 x1 x2 x5 x6 0 hP hS (lv_sub hl [0, 1, 2, 3, 4] rfl) h
        · have h := ite_t u1 h
          refine lv_iload hx hb dL_areEdges_143 (lv_at hl 4 rfl) ?_
          refine lv_aload_n hx hb dL_areEdges_145 rfl (lv_at hl 2 rfl) ?_
          refine lv_iconst (v := 0) hx hb dL_areEdges_146 (by decide) ?_
          obtain ⟨z2, h⟩ := ckK_el h
          obtain ⟨y4, t3, e5, h⟩ := rdI_el h
          refine g_ild hC hP z2.1 z2.2 y4 e5 dL_areEdges_147 ?_
          refine lv_icmp_ge (tgt := 345) hx hb dL_areEdges_148 (by decide) (fun u6 => ?_) (fun u6 => ?_)
          · have h := ite_t u6 h
            refine lv_iconst (v := 0) hx hb dL_areEdges_345 (by decide) ?_
            refine W.widen (k := 2) (n := 12) (Nat.le_of_ble_eq_true rfl) (Nat.le_of_ble_eq_true rfl) ?_
            exact b346 _ _ _ D x0 x1 x2 x5 x6 0 hP hS (lv_sub hl [0, 1, 2, 3, 4] rfl) h
          · have h := ite_f u6 h
            refine lv_aload_n hx hb dL_areEdges_151 rfl (lv_at hl 0 rfl) ?_
            refine lv_iload hx hb dL_areEdges_152 (lv_at hl 3 rfl) ?_
            obtain ⟨z7, h⟩ := ckK_el h
            obtain ⟨t9, e8, h⟩ := cal_el h
            refine g_VI (As := [.int x5]) (rest := []) hC hP hS z7.1 (cE_6 z7.2) (C := RX6) (T := TX6) (N := 8) rfl (m_X6_from l G F S D x0 x5 t9 e8) (cwV 1 hts (gVA wa_170 wa_171 wa_172 (hWCA _ wc_66) (hWCA _ wc_108) hWCA) rfl rfl rfl (by decide +kernel) ⟨Nat.le_of_ble_eq_true rfl, Nat.le_of_ble_eq_true rfl⟩) rfl hl.1 rfl (Nat.le_of_ble_eq_true rfl) dL_areEdges_154 ⟨Nat.le_of_ble_eq_true rfl, Nat.le_of_ble_eq_true rfl⟩ (fun H locs hP hS => ?_)
            refine lv_aload_n hx hb dL_areEdges_157 rfl (lv_at hl 0 rfl) ?_
            refine lv_iload hx hb dL_areEdges_158 (lv_at hl 3 rfl) ?_
            obtain ⟨t11, e10, h⟩ := cal_el h
            refine g_VI (As := [.int x5]) (rest := [.int t9]) hC hP hS z7.1 (cE_6 z7.2) (C := RX6) (T := TX6) (N := 8) rfl (m_X6_to l G F S D x0 x5 t11 e10) (cwV 1 hts (gVA wa_173 wa_174 wa_175 (hWCA _ wc_66) (hWCA _ wc_109) hWCA) rfl rfl rfl (by decide +kernel) ⟨Nat.le_of_ble_eq_true rfl, Nat.le_of_ble_eq_true rfl⟩) rfl hl.1 rfl (Nat.le_of_ble_eq_true rfl) dL_areEdges_160 ⟨Nat.le_of_ble_eq_true rfl, Nat.le_of_ble_eq_true rfl⟩ (fun H locs hP hS => ?_)
            refine lv_icmp_ge (tgt := 345) hx hb dL_areEdges_163 (by decide) (fun u12 => ?_) (fun u12 => ?_)
            · have h := ite_t u12 h
              refine lv_iconst (v := 0) hx hb dL_areEdges_345 (by decide) ?_
              refine W.widen (k := 2) (n := 12) (Nat.le_of_ble_eq_true rfl) (Nat.le_of_ble_eq_true rfl) ?_
              exact b346 _ _ _ D x0 x1 x2 x5 x6 0 hP hS (lv_sub hl [0, 1, 2, 3, 4] rfl) h
            · have h := ite_f u12 h
              refine lv_aload_n hx hb dL_areEdges_166 rfl (lv_at hl 0 rfl) ?_
              refine lv_iload hx hb dL_areEdges_167 (lv_at hl 3 rfl) ?_
              obtain ⟨t14, e13, h⟩ := cal_el h
              refine g_VI (As := [.int x5]) (rest := []) hC hP hS z7.1 (cE_6 z7.2) (C := RX6) (T := TX6) (N := 8) rfl (m_X6_to l G F S D x0 x5 t14 e13) (cwV 1 hts (gVA wa_173 wa_174 wa_175 (hWCA _ wc_66) (hWCA _ wc_109) hWCA) rfl rfl rfl (by decide +kernel) ⟨Nat.le_of_ble_eq_true rfl, Nat.le_of_ble_eq_true rfl⟩) rfl hl.1 rfl (Nat.le_of_ble_eq_true rfl) dL_areEdges_169 ⟨Nat.le_of_ble_eq_true rfl, Nat.le_of_ble_eq_true rfl⟩ (fun H locs hP hS => ?_)
              refine lv_aload_n hx hb dL_areEdges_172 rfl (lv_at hl 0 rfl) ?_
              obtain ⟨t16, e15, h⟩ := cal_el h
              refine g_VI (As := []) (rest := [.int t14]) hC hP hS z7.1 (cE_6 z7.2) (C := RX6) (T := TX6) (N := 8) rfl (m_X6_vertices l G F S D x0 t16 e15) (cwV 0 hts (gVA wa_223 wa_224 wa_225 (hWCA _ wc_66) (hWCA _ wc_73) hWCA) rfl rfl rfl (by decide +kernel) ⟨Nat.le_of_ble_eq_true rfl, Nat.le_of_ble_eq_true rfl⟩) rfl hl.1 rfl (Nat.le_of_ble_eq_true rfl) dL_areEdges_173 ⟨Nat.le_of_ble_eq_true rfl, Nat.le_of_ble_eq_true rfl⟩ (fun H locs hP hS => ?_)
              refine lv_icmp_ge (tgt := 345) hx hb dL_areEdges_176 (by decide) (fun u17 => ?_) (fun u17 => ?_)
              · have h := ite_t u17 h
                refine lv_iconst (v := 0) hx hb dL_areEdges_345 (by decide) ?_
                refine W.widen (k := 2) (n := 12) (Nat.le_of_ble_eq_true rfl) (Nat.le_of_ble_eq_true rfl) ?_
                exact b346 _ _ _ D x0 x1 x2 x5 x6 0 hP hS (lv_sub hl [0, 1, 2, 3, 4] rfl) h
              · have h := ite_f u17 h
                refine lv_aload_n hx hb dL_areEdges_179 rfl (lv_at hl 0 rfl) ?_
                refine lv_aload_n hx hb dL_areEdges_180 rfl (lv_at hl 1 rfl) ?_
                refine lv_iload hx hb dL_areEdges_181 (lv_at hl 4 rfl) ?_
                refine lv_aload_n hx hb dL_areEdges_183 rfl (lv_at hl 0 rfl) ?_
                refine lv_iload hx hb dL_areEdges_184 (lv_at hl 3 rfl) ?_
                obtain ⟨t19, e18, h⟩ := cal_el h
                refine g_VI (As := [.int x5]) (rest := [.int x6, .ref x1, .ref x0]) hC hP hS z7.1 (cE_6 z7.2) (C := RX6) (T := TX6) (N := 8) rfl (m_X6_from l G F S D x0 x5 t19 e18) (cwV 1 hts (gVA wa_170 wa_171 wa_172 (hWCA _ wc_66) (hWCA _ wc_108) hWCA) rfl rfl rfl (by decide +kernel) ⟨Nat.le_of_ble_eq_true rfl, Nat.le_of_ble_eq_true rfl⟩) rfl hl.1 rfl (Nat.le_of_ble_eq_true rfl) dL_areEdges_186 ⟨Nat.le_of_ble_eq_true rfl, Nat.le_of_ble_eq_true rfl⟩ (fun H locs hP hS => ?_)
                obtain ⟨t21, e20, h⟩ := cal_el h
                refine g_SI (As := [.ref x0, .ref x1, .int x6, .int t19]) (rest := []) hC hP hS (m_L_isOn l G F S D x0 x1 x6 t19 t21 e20) (va_cwS 4 hts (gSA wa_239 wa_240 wa_233 wa_230 (fun w h => h)) rfl rfl rfl (by decide +kernel) ⟨Nat.le_of_ble_eq_true rfl, Nat.le_of_ble_eq_true rfl⟩) rfl hl.1 rfl (Nat.le_of_ble_eq_true rfl) dL_areEdges_189 ⟨Nat.le_of_ble_eq_true rfl, Nat.le_of_ble_eq_true rfl⟩ (fun H locs hP hS => ?_)
                refine lv_if_eq (tgt := 345) hx hb dL_areEdges_192 (by decide) (fun u22 => ?_) (fun u22 => ?_)
                · have h := ite_t u22 h
                  refine lv_iconst (v := 0) hx hb dL_areEdges_345 (by decide) ?_
                  refine W.widen (k := 2) (n := 12) (Nat.le_of_ble_eq_true rfl) (Nat.le_of_ble_eq_true rfl) ?_
                  exact b346 _ _ _ D x0 x1 x2 x5 x6 0 hP hS (lv_sub hl [0, 1, 2, 3, 4] rfl) h
                · have h := ite_f u22 h
                  refine lv_aload_n hx hb dL_areEdges_195 rfl (lv_at hl 0 rfl) ?_
                  refine lv_aload_n hx hb dL_areEdges_196 rfl (lv_at hl 1 rfl) ?_
                  refine lv_iload hx hb dL_areEdges_197 (lv_at hl 4 rfl) ?_
                  refine lv_aload_n hx hb dL_areEdges_199 rfl (lv_at hl 0 rfl) ?_
                  refine lv_iload hx hb dL_areEdges_200 (lv_at hl 3 rfl) ?_
                  obtain ⟨t24, e23, h⟩ := cal_el h
                  refine g_VI (As := [.int x5]) (rest := [.int x6, .ref x1, .ref x0]) hC hP hS z7.1 (cE_6 z7.2) (C := RX6) (T := TX6) (N := 8) rfl (m_X6_to l G F S D x0 x5 t24 e23) (cwV 1 hts (gVA wa_173 wa_174 wa_175 (hWCA _ wc_66) (hWCA _ wc_109) hWCA) rfl rfl rfl (by decide +kernel) ⟨Nat.le_of_ble_eq_true rfl, Nat.le_of_ble_eq_true rfl⟩) rfl hl.1 rfl (Nat.le_of_ble_eq_true rfl) dL_areEdges_202 ⟨Nat.le_of_ble_eq_true rfl, Nat.le_of_ble_eq_true rfl⟩ (fun H locs hP hS => ?_)
                  obtain ⟨t26, e25, h⟩ := cal_el h
                  refine g_SI (As := [.ref x0, .ref x1, .int x6, .int t24]) (rest := []) hC hP hS (m_L_isOn l G F S D x0 x1 x6 t24 t26 e25) (va_cwS 4 hts (gSA wa_239 wa_240 wa_233 wa_230 (fun w h => h)) rfl rfl rfl (by decide +kernel) ⟨Nat.le_of_ble_eq_true rfl, Nat.le_of_ble_eq_true rfl⟩) rfl hl.1 rfl (Nat.le_of_ble_eq_true rfl) dL_areEdges_205 ⟨Nat.le_of_ble_eq_true rfl, Nat.le_of_ble_eq_true rfl⟩ (fun H locs hP hS => ?_)
                  refine lv_if_eq (tgt := 345) hx hb dL_areEdges_208 (by decide) (fun u27 => ?_) (fun u27 => ?_)
                  · have h := ite_t u27 h
                    refine lv_iconst (v := 0) hx hb dL_areEdges_345 (by decide) ?_
                    refine W.widen (k := 2) (n := 12) (Nat.le_of_ble_eq_true rfl) (Nat.le_of_ble_eq_true rfl) ?_
                    exact b346 _ _ _ D x0 x1 x2 x5 x6 0 hP hS (lv_sub hl [0, 1, 2, 3, 4] rfl) h
                  · have h := ite_f u27 h
                    refine lv_iload hx hb dL_areEdges_211 (lv_at hl 5 rfl) ?_
                    refine lv_if_eq (tgt := 246) hx hb dL_areEdges_213 (by decide) (fun u28 => ?_) (fun u28 => ?_)
                    · have h := ite_t u28 h
                      refine lv_aload_n hx hb dL_areEdges_246 rfl (lv_at hl 0 rfl) ?_
                      refine lv_iload hx hb dL_areEdges_247 (lv_at hl 3 rfl) ?_
                      obtain ⟨t30, e29, h⟩ := cal_el h
                      refine g_VI (As := [.int x5]) (rest := []) hC hP hS z7.1 (cE_6 z7.2) (C := RX6) (T := TX6) (N := 8) rfl (m_X6_from l G F S D x0 x5 t30 e29) (cwV 1 hts (gVA wa_170 wa_171 wa_172 (hWCA _ wc_66) (hWCA _ wc_108) hWCA) rfl rfl rfl (by decide +kernel) ⟨Nat.le_of_ble_eq_true rfl, Nat.le_of_ble_eq_true rfl⟩) rfl hl.1 rfl (Nat.le_of_ble_eq_true rfl) dL_areEdges_249 ⟨Nat.le_of_ble_eq_true rfl, Nat.le_of_ble_eq_true rfl⟩ (fun H locs hP hS => ?_)
                      refine lv_aload_n hx hb dL_areEdges_252 rfl (lv_at hl 0 rfl) ?_
                      refine lv_iload hx hb dL_areEdges_253 (lv_at hl 3 rfl) ?_
                      refine lv_iconst (v := 1) hx hb dL_areEdges_255 (by decide) ?_
                      refine lv_isub hx hb dL_areEdges_256 ?_
                      obtain ⟨t32, e31, h⟩ := cal_el h
                      refine g_VI (As := [.int (x5 - 1)]) (rest := [.int t30]) hC hP hS z7.1 (cE_6 z7.2) (C := RX6) (T := TX6) (N := 8) rfl (m_X6_to l G F S D x0 (x5 - 1) t32 e31) (cwV 1 hts (gVA wa_173 wa_174 wa_175 (hWCA _ wc_66) (hWCA _ wc_109) hWCA) rfl rfl rfl (by decide +kernel) ⟨Nat.le_of_ble_eq_true rfl, Nat.le_of_ble_eq_true rfl⟩) rfl hl.1 rfl (Nat.le_of_ble_eq_true rfl) dL_areEdges_257 ⟨Nat.le_of_ble_eq_true rfl, Nat.le_of_ble_eq_true rfl⟩ (fun H locs hP hS => ?_)
                      refine lv_icmp_ne (tgt := 345) hx hb dL_areEdges_260 (by decide) (fun u33 => ?_) (fun u33 => ?_)
                      · have h := ite_f u33 h
                        refine lv_iconst (v := 0) hx hb dL_areEdges_345 (by decide) ?_
                        refine W.widen (k := 2) (n := 12) (Nat.le_of_ble_eq_true rfl) (Nat.le_of_ble_eq_true rfl) ?_
                        exact b346 _ _ _ D x0 x1 x2 x5 x6 0 hP hS (lv_sub hl [0, 1, 2, 3, 4] rfl) h
                      · have h := ite_t u33 h
                        refine W.widen (k := 2) (n := 12) (Nat.le_of_ble_eq_true rfl) (Nat.le_of_ble_eq_true rfl) ?_
                        exact b263 _ _ _ D x0 x1 x2 x5 x6 x8 hP hS (lv_sub hl [0, 1, 2, 3, 4, 6] rfl) h
                    · have h := ite_f u28 h
                      refine lv_aload_n hx hb dL_areEdges_216 rfl (lv_at hl 0 rfl) ?_
                      refine lv_aload_n hx hb dL_areEdges_217 rfl (lv_at hl 0 rfl) ?_
                      refine lv_iload hx hb dL_areEdges_218 (lv_at hl 3 rfl) ?_
                      obtain ⟨t35, e34, h⟩ := cal_el h
                      refine g_VI (As := [.int x5]) (rest := [.ref x0]) hC hP hS z7.1 (cE_6 z7.2) (C := RX6) (T := TX6) (N := 8) rfl (m_X6_from l G F S D x0 x5 t35 e34) (cwV 1 hts (gVA wa_170 wa_171 wa_172 (hWCA _ wc_66) (hWCA _ wc_108) hWCA) rfl rfl rfl (by decide +kernel) ⟨Nat.le_of_ble_eq_true rfl, Nat.le_of_ble_eq_true rfl⟩) rfl hl.1 rfl (Nat.le_of_ble_eq_true rfl) dL_areEdges_220 ⟨Nat.le_of_ble_eq_true rfl, Nat.le_of_ble_eq_true rfl⟩ (fun H locs hP hS => ?_)
                      refine lv_aload_n hx hb dL_areEdges_223 rfl (lv_at hl 1 rfl) ?_
                      refine lv_iconst (v := 4) hx hb dL_areEdges_224 (by decide) ?_
                      refine lv_iload hx hb dL_areEdges_225 (lv_at hl 4 rfl) ?_
                      refine lv_imul hx hb dL_areEdges_227 ?_
                      obtain ⟨z36, h⟩ := ckK_el h
                      obtain ⟨y38, t37, e39, h⟩ := rdI_el h
                      refine g_ild hC hP z36.1 z36.2 y38 e39 dL_areEdges_228 ?_
                      refine lv_aload_n hx hb dL_areEdges_229 rfl (lv_at hl 1 rfl) ?_
                      refine lv_iconst (v := 4) hx hb dL_areEdges_230 (by decide) ?_
                      refine lv_iload hx hb dL_areEdges_231 (lv_at hl 4 rfl) ?_
                      refine lv_imul hx hb dL_areEdges_233 ?_
                      refine lv_iconst (v := 1) hx hb dL_areEdges_234 (by decide) ?_
                      refine lv_iadd hx hb dL_areEdges_235 ?_
                      obtain ⟨y41, t40, e42, h⟩ := rdI_el h
                      refine g_ild hC hP z36.1 z36.2 y41 e42 dL_areEdges_236 ?_
                      obtain ⟨t44, e43, h⟩ := cal_el h
                      refine g_SI (As := [.ref x0, .int t35, .int t37, .int t40]) (rest := []) hC hP hS (m_L_isEnd l G F S D x0 t35 t37 t40 t44 e43) (va_cwS 4 hts (gSA wa_245 wa_246 wa_233 wa_243 (fun w h => h)) rfl rfl rfl (by decide +kernel) ⟨Nat.le_of_ble_eq_true rfl, Nat.le_of_ble_eq_true rfl⟩) rfl hl.1 rfl (Nat.le_of_ble_eq_true rfl) dL_areEdges_237 ⟨Nat.le_of_ble_eq_true rfl, Nat.le_of_ble_eq_true rfl⟩ (fun H locs hP hS => ?_)
                      refine lv_if_eq (tgt := 345) hx hb dL_areEdges_240 (by decide) (fun u45 => ?_) (fun u45 => ?_)
                      · have h := ite_t u45 h
                        refine lv_iconst (v := 0) hx hb dL_areEdges_345 (by decide) ?_
                        refine W.widen (k := 2) (n := 12) (Nat.le_of_ble_eq_true rfl) (Nat.le_of_ble_eq_true rfl) ?_
                        exact b346 _ _ _ D x0 x1 x2 x5 x6 0 hP hS (lv_sub hl [0, 1, 2, 3, 4] rfl) h
                      · have h := ite_f u45 h
                        refine lv_goto (tgt := 263) hx hb dL_areEdges_243 (by decide) ?_
                        refine W.widen (k := 2) (n := 12) (Nat.le_of_ble_eq_true rfl) (Nat.le_of_ble_eq_true rfl) ?_
                        exact b263 _ _ _ D x0 x1 x2 x5 x6 x8 hP hS (lv_sub hl [0, 1, 2, 3, 4, 6] rfl) h
      have b122 : ∀ (H : Heap) (locs : List Loc) (ls : Array Slot) (D : CD) (x0 : Nat) (x1 : Nat) (x2 : Nat) (x4 : Int32) (x5 : Int32) (x6 : Int32) (x7 : Int32) (s0 : Int32), va_P G.1 vwCl (cW G S D) H → va_S (cA G S sz) s.heap H locs → lv_has ls 9 [(0, .ref x0), (1, .ref x1), (2, .ref x2), (4, .int x4), (5, .int x5), (6, .int x6), (7, .int x7)] → f_L_areEdges_b122 F S ((f_L_areEdges_L47 F S n47)) D x0 x1 x2 x4 x5 x6 x7 s0 = some (D2, r) → W p l e (headSpec wL_areEdges ({ frames := 11, cells := 2, slots := 12, locals := 430 })).room s m ([.ref a1, .ref a2, .ref a3] : List Value).toArray below meth c H locs 2 12 (lQI below G S D2 sz ([.ref a1, .ref a2, .ref a3] : List Value).toArray s r 2 12) (F0 m 122 ls [.int s0]) := by
        intro H locs ls D x0 x1 x2 x4 x5 x6 x7 s0 hP hS hl h
        unfold f_L_areEdges_b122 at h
        refine lv_istore (lv' := [(8, .int s0), (0, .ref x0), (1, .ref x1), (2, .ref x2), (4, .int x4), (5, .int x5), (6, .int x6), (7, .int x7)]) hx hb dL_areEdges_122 hl (by decide) rfl (fun ls hl => ?_)
        refine lv_iload hx hb dL_areEdges_124 (lv_at hl 6 rfl) ?_
        refine lv_iload hx hb dL_areEdges_126 (lv_at hl 7 rfl) ?_
        refine lv_if_eq (tgt := 138) hx hb dL_areEdges_128 (by decide) (fun u1 => ?_) (fun u1 => ?_)
        · have h := ite_t u1 h
          refine lv_iload hx hb dL_areEdges_138 (lv_at hl 4 rfl) ?_
          refine W.widen (k := 2) (n := 12) (Nat.le_of_ble_eq_true rfl) (Nat.le_of_ble_eq_true rfl) ?_
          exact b140 _ _ _ D x0 x1 x2 x5 x6 x7 s0 x4 x6 hP hS (lv_sub hl [1, 2, 3, 5, 6, 7, 0] rfl) h
        · have h := ite_f u1 h
          refine lv_iload hx hb dL_areEdges_131 (lv_at hl 4 rfl) ?_
          refine lv_iconst (v := 1) hx hb dL_areEdges_133 (by decide) ?_
          refine lv_iadd hx hb dL_areEdges_134 ?_
          refine lv_goto (tgt := 140) hx hb dL_areEdges_135 (by decide) ?_
          refine W.widen (k := 2) (n := 12) (Nat.le_of_ble_eq_true rfl) (Nat.le_of_ble_eq_true rfl) ?_
          exact b140 _ _ _ D x0 x1 x2 x5 x6 x7 s0 (x4 + 1) x6 hP hS (lv_sub hl [1, 2, 3, 5, 6, 7, 0] rfl) h
      have b91 : ∀ (H : Heap) (locs : List Loc) (ls : Array Slot) (D : CD) (x0 : Nat) (x1 : Nat) (x2 : Nat) (x4 : Int32) (x5 : Int32) (x6 : Int32) (s0 : Int32), va_P G.1 vwCl (cW G S D) H → va_S (cA G S sz) s.heap H locs → lv_has ls 9 [(0, .ref x0), (1, .ref x1), (2, .ref x2), (4, .int x4), (5, .int x5), (6, .int x6)] → f_L_areEdges_b91 F S ((f_L_areEdges_L47 F S n47)) D x0 x1 x2 x4 x5 x6 s0 = some (D2, r) → W p l e (headSpec wL_areEdges ({ frames := 11, cells := 2, slots := 12, locals := 430 })).room s m ([.ref a1, .ref a2, .ref a3] : List Value).toArray below meth c H locs 2 12 (lQI below G S D2 sz ([.ref a1, .ref a2, .ref a3] : List Value).toArray s r 2 12) (F0 m 91 ls [.int s0]) := by
        intro H locs ls D x0 x1 x2 x4 x5 x6 s0 hP hS hl h
        unfold f_L_areEdges_b91 at h
        refine lv_istore (lv' := [(7, .int s0), (0, .ref x0), (1, .ref x1), (2, .ref x2), (4, .int x4), (5, .int x5), (6, .int x6)]) hx hb dL_areEdges_91 hl (by decide) rfl (fun ls hl => ?_)
        refine lv_iload hx hb dL_areEdges_93 (lv_at hl 5 rfl) ?_
        refine lv_aload_n hx hb dL_areEdges_95 rfl (lv_at hl 1 rfl) ?_
        obtain ⟨z1, h⟩ := ckK_el h
        obtain ⟨t3, e2, h⟩ := cal_el h
        refine g_VI (As := []) (rest := [.int x5]) hC hP hS z1.1 (cE_6 z1.2) (C := RX6) (T := TX6) (N := 8) rfl (m_X6_edges l G F S D x0 t3 e2) (cwV 0 hts (gVA wa_226 wa_227 wa_228 (hWCA _ wc_66) (hWCA _ wc_75) hWCA) rfl rfl rfl (by decide +kernel) ⟨Nat.le_of_ble_eq_true rfl, Nat.le_of_ble_eq_true rfl⟩) rfl hl.1 rfl (Nat.le_of_ble_eq_true rfl) dL_areEdges_96 ⟨Nat.le_of_ble_eq_true rfl, Nat.le_of_ble_eq_true rfl⟩ (fun H locs hP hS => ?_)
        refine lv_iconst (v := 1) hx hb dL_areEdges_99 (by decide) ?_
        refine lv_isub hx hb dL_areEdges_100 ?_
        refine lv_icmp_eq (tgt := 117) hx hb dL_areEdges_101 (by decide) (fun u4 => ?_) (fun u4 => ?_)
        · have h := ite_t u4 h
          refine lv_iconst (v := 1) hx hb dL_areEdges_117 (by decide) ?_
          refine lv_goto (tgt := 122) hx hb dL_areEdges_118 (by decide) ?_
          refine W.widen (k := 2) (n := 12) (Nat.le_of_ble_eq_true rfl) (Nat.le_of_ble_eq_true rfl) ?_
          exact b122 _ _ _ D x0 x1 x2 x4 x5 x6 s0 1 hP hS (lv_sub hl [1, 2, 3, 4, 5, 6, 0] rfl) h
        · have h := ite_f u4 h
          refine lv_aload_n hx hb dL_areEdges_104 rfl (lv_at hl 1 rfl) ?_
          refine lv_iload hx hb dL_areEdges_105 (lv_at hl 5 rfl) ?_
          refine lv_iconst (v := 1) hx hb dL_areEdges_107 (by decide) ?_
          refine lv_iadd hx hb dL_areEdges_108 ?_
          obtain ⟨t6, e5, h⟩ := cal_el h
          refine g_VI (As := [.int (x5 + 1)]) (rest := []) hC hP hS z1.1 (cE_6 z1.2) (C := RX6) (T := TX6) (N := 8) rfl (m_X6_segmentOf l G F S D x0 (x5 + 1) t6 e5) (cwV 1 hts (gVA wa_167 wa_168 wa_169 (hWCA _ wc_66) (hWCA _ wc_104) hWCA) rfl rfl rfl (by decide +kernel) ⟨Nat.le_of_ble_eq_true rfl, Nat.le_of_ble_eq_true rfl⟩) rfl hl.1 rfl (Nat.le_of_ble_eq_true rfl) dL_areEdges_109 ⟨Nat.le_of_ble_eq_true rfl, Nat.le_of_ble_eq_true rfl⟩ (fun H locs hP hS => ?_)
          refine lv_iload hx hb dL_areEdges_112 (lv_at hl 6 rfl) ?_
          refine lv_icmp_eq (tgt := 121) hx hb dL_areEdges_114 (by decide) (fun u7 => ?_) (fun u7 => ?_)
          · have h := ite_t u7 h
            refine lv_iconst (v := 0) hx hb dL_areEdges_121 (by decide) ?_
            refine W.widen (k := 2) (n := 12) (Nat.le_of_ble_eq_true rfl) (Nat.le_of_ble_eq_true rfl) ?_
            exact b122 _ _ _ D x0 x1 x2 x4 x5 x6 s0 0 hP hS (lv_sub hl [1, 2, 3, 4, 5, 6, 0] rfl) h
          · have h := ite_f u7 h
            refine lv_iconst (v := 1) hx hb dL_areEdges_117 (by decide) ?_
            refine lv_goto (tgt := 122) hx hb dL_areEdges_118 (by decide) ?_
            refine W.widen (k := 2) (n := 12) (Nat.le_of_ble_eq_true rfl) (Nat.le_of_ble_eq_true rfl) ?_
            exact b122 _ _ _ D x0 x1 x2 x4 x5 x6 s0 1 hP hS (lv_sub hl [1, 2, 3, 4, 5, 6, 0] rfl) h
      intro H locs ls D x0 x1 x2 x3 x4 x5 hP hS hl h
      rw [f_L_areEdges_L47] at h
      refine lv_iload hx hb dL_areEdges_47 (lv_at hl 5 rfl) ?_
      refine lv_aload_n hx hb dL_areEdges_49 rfl (lv_at hl 0 rfl) ?_
      obtain ⟨z1, h⟩ := ckK_el h
      obtain ⟨t3, e2, h⟩ := cal_el h
      refine g_VI (As := []) (rest := [.int x5]) hC hP hS z1.1 (cE_6 z1.2) (C := RX6) (T := TX6) (N := 8) rfl (m_X6_edges l G F S D x0 t3 e2) (cwV 0 hts (gVA wa_226 wa_227 wa_228 (hWCA _ wc_66) (hWCA _ wc_75) hWCA) rfl rfl rfl (by decide +kernel) ⟨Nat.le_of_ble_eq_true rfl, Nat.le_of_ble_eq_true rfl⟩) rfl hl.1 rfl (Nat.le_of_ble_eq_true rfl) dL_areEdges_50 ⟨Nat.le_of_ble_eq_true rfl, Nat.le_of_ble_eq_true rfl⟩ (fun H locs hP hS => ?_)
      refine lv_icmp_ge (tgt := 357) hx hb dL_areEdges_53 (by decide) (fun u4 => ?_) (fun u4 => ?_)
      · have h := ite_t u4 h
        refine W.widen (k := 2) (n := 12) (Nat.le_of_ble_eq_true rfl) (Nat.le_of_ble_eq_true rfl) ?_
        exact b357 _ _ _ D x2 x3 x4 hP hS (lv_sub hl [2, 3, 4] rfl) h
      · have h := ite_f u4 h
        refine lv_iload_n hx hb dL_areEdges_56 rfl (lv_at hl 3 rfl) ?_
        refine lv_if_eq (tgt := 357) hx hb dL_areEdges_57 (by decide) (fun u5 => ?_) (fun u5 => ?_)
        · have h := ite_t u5 h
          refine W.widen (k := 2) (n := 12) (Nat.le_of_ble_eq_true rfl) (Nat.le_of_ble_eq_true rfl) ?_
          exact b357 _ _ _ D x2 x3 x4 hP hS (lv_sub hl [2, 3, 4] rfl) h
        · have h := ite_f u5 h
          refine lv_aload_n hx hb dL_areEdges_60 rfl (lv_at hl 0 rfl) ?_
          refine lv_iload hx hb dL_areEdges_61 (lv_at hl 5 rfl) ?_
          obtain ⟨t7, e6, h⟩ := cal_el h
          refine g_VI (As := [.int x5]) (rest := []) hC hP hS z1.1 (cE_6 z1.2) (C := RX6) (T := TX6) (N := 8) rfl (m_X6_segmentOf l G F S D x0 x5 t7 e6) (cwV 1 hts (gVA wa_167 wa_168 wa_169 (hWCA _ wc_66) (hWCA _ wc_104) hWCA) rfl rfl rfl (by decide +kernel) ⟨Nat.le_of_ble_eq_true rfl, Nat.le_of_ble_eq_true rfl⟩) rfl hl.1 rfl (Nat.le_of_ble_eq_true rfl) dL_areEdges_63 ⟨Nat.le_of_ble_eq_true rfl, Nat.le_of_ble_eq_true rfl⟩ (fun H locs hP hS => ?_)
          refine lv_istore (lv' := [(6, .int t7), (0, .ref x0), (1, .ref x1), (2, .ref x2), (3, .int x3), (4, .int x4), (5, .int x5)]) hx hb dL_areEdges_66 hl (by decide) rfl (fun ls hl => ?_)
          refine lv_iload hx hb dL_areEdges_68 (lv_at hl 6 rfl) ?_
          refine lv_if_eq (tgt := 86) hx hb dL_areEdges_70 (by decide) (fun u8 => ?_) (fun u8 => ?_)
          · have h := ite_t u8 h
            refine lv_iconst (v := 1) hx hb dL_areEdges_86 (by decide) ?_
            refine lv_goto (tgt := 91) hx hb dL_areEdges_87 (by decide) ?_
            refine W.widen (k := 2) (n := 12) (Nat.le_of_ble_eq_true rfl) (Nat.le_of_ble_eq_true rfl) ?_
            exact b91 _ _ _ D x0 x1 x2 x4 x5 t7 1 hP hS (lv_sub hl [1, 2, 3, 5, 6, 0] rfl) h
          · have h := ite_f u8 h
            refine lv_aload_n hx hb dL_areEdges_73 rfl (lv_at hl 1 rfl) ?_
            refine lv_iload hx hb dL_areEdges_74 (lv_at hl 6 rfl) ?_
            refine lv_iconst (v := 1) hx hb dL_areEdges_76 (by decide) ?_
            refine lv_isub hx hb dL_areEdges_77 ?_
            obtain ⟨t10, e9, h⟩ := cal_el h
            refine g_VI (As := [.int (x5 - 1)]) (rest := []) hC hP hS z1.1 (cE_6 z1.2) (C := RX6) (T := TX6) (N := 8) rfl (m_X6_segmentOf l G F S D x0 (x5 - 1) t10 e9) (cwV 1 hts (gVA wa_167 wa_168 wa_169 (hWCA _ wc_66) (hWCA _ wc_104) hWCA) rfl rfl rfl (by decide +kernel) ⟨Nat.le_of_ble_eq_true rfl, Nat.le_of_ble_eq_true rfl⟩) rfl hl.1 rfl (Nat.le_of_ble_eq_true rfl) dL_areEdges_78 ⟨Nat.le_of_ble_eq_true rfl, Nat.le_of_ble_eq_true rfl⟩ (fun H locs hP hS => ?_)
            refine lv_iload hx hb dL_areEdges_81 (lv_at hl 0 rfl) ?_
            refine lv_icmp_eq (tgt := 90) hx hb dL_areEdges_83 (by decide) (fun u11 => ?_) (fun u11 => ?_)
            · have h := ite_t u11 h
              refine lv_iconst (v := 0) hx hb dL_areEdges_90 (by decide) ?_
              refine W.widen (k := 2) (n := 12) (Nat.le_of_ble_eq_true rfl) (Nat.le_of_ble_eq_true rfl) ?_
              exact b91 _ _ _ D x0 x1 x2 x4 x5 t7 0 hP hS (lv_sub hl [1, 2, 3, 5, 6, 0] rfl) h
            · have h := ite_f u11 h
              refine lv_iconst (v := 1) hx hb dL_areEdges_86 (by decide) ?_
              refine lv_goto (tgt := 91) hx hb dL_areEdges_87 (by decide) ?_
              refine W.widen (k := 2) (n := 12) (Nat.le_of_ble_eq_true rfl) (Nat.le_of_ble_eq_true rfl) ?_
              exact b91 _ _ _ D x0 x1 x2 x4 x5 t7 1 hP hS (lv_sub hl [1, 2, 3, 5, 6, 0] rfl) h
  have b40 : ∀ (H : Heap) (locs : List Loc) (ls : Array Slot) (D : CD) (x0 : Nat) (x1 : Nat) (x2 : Nat) (s0 : Int32), va_P G.1 vwCl (cW G S D) H → va_S (cA G S sz) s.heap H locs → lv_has ls 9 [(0, .ref x0), (1, .ref x1), (2, .ref x2)] → f_L_areEdges_b40 F S D x0 x1 x2 s0 = some (D2, r) → W p l e (headSpec wL_areEdges ({ frames := 11, cells := 2, slots := 12, locals := 430 })).room s m ([.ref a1, .ref a2, .ref a3] : List Value).toArray below meth c H locs 2 12 (lQI below G S D2 sz ([.ref a1, .ref a2, .ref a3] : List Value).toArray s r 2 12) (F0 m 40 ls [.int s0]) := by
    intro H locs ls D x0 x1 x2 s0 hP hS hl h
    unfold f_L_areEdges_b40 at h
    refine lv_istore_n (lv' := [(3, .int s0), (0, .ref x0), (1, .ref x1), (2, .ref x2)]) hx hb dL_areEdges_40 rfl hl (by decide) rfl (fun ls hl => ?_)
    refine lv_iconst (v := (-1)) hx hb dL_areEdges_41 (by decide) ?_
    refine lv_istore (lv' := [(4, .int ((-1))), (3, .int s0), (0, .ref x0), (1, .ref x1), (2, .ref x2)]) hx hb dL_areEdges_42 hl (by decide) rfl (fun ls hl => ?_)
    refine lv_iconst (v := 0) hx hb dL_areEdges_44 (by decide) ?_
    refine lv_istore (lv' := [(5, .int 0), (4, .int ((-1))), (3, .int s0), (0, .ref x0), (1, .ref x1), (2, .ref x2)]) hx hb dL_areEdges_45 hl (by decide) rfl (fun ls hl => ?_)
    refine W.widen (k := 2) (n := 12) (Nat.le_of_ble_eq_true rfl) (Nat.le_of_ble_eq_true rfl) ?_
    exact L47 F _ _ _ D x0 x1 x2 s0 ((-1)) 0 hP hS (lv_sub hl [3, 4, 5, 2, 1, 0] rfl) h
  refine m_entry (Nat.le_of_ble_eq_true rfl) (fun ls hl => ?_)
  have hl : lv_has ls 9 [(0, .ref a1), (1, .ref a2), (2, .ref a3)] := hl
  unfold f_L_areEdges at h
  refine lv_aload_n hx hb dL_areEdges_0 rfl (lv_at hl 0 rfl) ?_
  refine lv_bipush (v := 6) hx hb dL_areEdges_1 (by decide) ?_
  refine lv_aload_n hx hb dL_areEdges_3 rfl (lv_at hl 2 rfl) ?_
  refine lv_iconst (v := 0) hx hb dL_areEdges_4 (by decide) ?_
  obtain ⟨z1, h⟩ := ckK_el h
  obtain ⟨y3, t2, e4, h⟩ := rdI_el h
  refine g_ild hC hP z1.1 z1.2 y3 e4 dL_areEdges_5 ?_
  refine lv_iconst (v := 5) hx hb dL_areEdges_6 (by decide) ?_
  refine lv_irem hx hb dL_areEdges_7 (by decide) ?_
  refine lv_iadd hx hb dL_areEdges_8 ?_
  refine lv_aload_n hx hb dL_areEdges_9 rfl (lv_at hl 0 rfl) ?_
  obtain ⟨z5, h⟩ := ckK_el h
  obtain ⟨t7, e6, h⟩ := cal_el h
  refine g_VI (As := []) (rest := [.int (6 + (t2 - t2 / 5 * 5)), .ref a1]) hC hP hS z5.1 (cE_6 z5.2) (C := RX6) (T := TX6) (N := 8) rfl (m_X6_edges l G F S D a1 t7 e6) (cwV 0 hts (gVA wa_226 wa_227 wa_228 (hWCA _ wc_66) (hWCA _ wc_75) hWCA) rfl rfl rfl (by decide +kernel) ⟨Nat.le_of_ble_eq_true rfl, Nat.le_of_ble_eq_true rfl⟩) rfl hl.1 rfl (Nat.le_of_ble_eq_true rfl) dL_areEdges_10 ⟨Nat.le_of_ble_eq_true rfl, Nat.le_of_ble_eq_true rfl⟩ (fun H locs hP hS => ?_)
  obtain ⟨D9, t10, e8, h⟩ := caM_el h
  refine g_SX (As := [.ref a1, .int (6 + (t2 - t2 / 5 * 5)), .int t7]) (rest := []) (mc := 1) (ms := 6) hC hv hP hS (m_L_of l hfl G F S z9 D D9 a1 (6 + (t2 - t2 / 5 * 5)) t7 t10 e8) (vx_cwSW 3 hts (gSX wa_237 wa_238 wa_233 wa_147) rfl rfl rfl (by decide +kernel) ⟨Nat.le_of_ble_eq_true rfl, Nat.le_of_ble_eq_true rfl⟩) rfl hl.1 rfl (Nat.le_of_ble_eq_true rfl) dL_areEdges_13 ⟨Nat.le_of_ble_eq_true rfl, Nat.le_of_ble_eq_true rfl⟩ (fun H locs hP hS => ?_)
  refine lv_sipush (v := (-601)) hx hb dL_areEdges_16 (by decide) ?_
  refine lv_icmp_ne (tgt := 39) hx hb dL_areEdges_19 (by decide) (fun u11 => ?_) (fun u11 => ?_)
  · have h := ite_f u11 h
    refine lv_iconst (v := 0) hx hb dL_areEdges_39 (by decide) ?_
    refine W.widen (k := 2) (n := 12) (Nat.le_of_ble_eq_true rfl) (Nat.le_of_ble_eq_true rfl) ?_
    exact b40 _ _ _ D9 a1 a2 a3 0 hP hS (lv_sub hl [0, 1, 2] rfl) h
  · have h := ite_t u11 h
    refine lv_aload_n hx hb dL_areEdges_22 rfl (lv_at hl 0 rfl) ?_
    refine lv_bipush (v := 8) hx hb dL_areEdges_23 (by decide) ?_
    refine lv_iconst (v := (-1)) hx hb dL_areEdges_25 (by decide) ?_
    obtain ⟨D13, t14, e12, h⟩ := caM_el h
    refine g_SX (As := [.ref a1, .int 8, .int ((-1))]) (rest := []) (mc := 1) (ms := 6) hC hv hP hS (m_L_of l hfl G F S z9 D9 D13 a1 8 ((-1)) t14 e12) (vx_cwSW 3 hts (gSX wa_237 wa_238 wa_233 wa_147) rfl rfl rfl (by decide +kernel) ⟨Nat.le_of_ble_eq_true rfl, Nat.le_of_ble_eq_true rfl⟩) rfl hl.1 rfl (Nat.le_of_ble_eq_true rfl) dL_areEdges_26 ⟨Nat.le_of_ble_eq_true rfl, Nat.le_of_ble_eq_true rfl⟩ (fun H locs hP hS => ?_)
    refine lv_sipush (v := (-601)) hx hb dL_areEdges_29 (by decide) ?_
    refine lv_icmp_ne (tgt := 39) hx hb dL_areEdges_32 (by decide) (fun u15 => ?_) (fun u15 => ?_)
    · have h := ite_f u15 h
      refine lv_iconst (v := 0) hx hb dL_areEdges_39 (by decide) ?_
      refine W.widen (k := 2) (n := 12) (Nat.le_of_ble_eq_true rfl) (Nat.le_of_ble_eq_true rfl) ?_
      exact b40 _ _ _ D13 a1 a2 a3 0 hP hS (lv_sub hl [0, 1, 2] rfl) h
    · have h := ite_t u15 h
      refine lv_iconst (v := 1) hx hb dL_areEdges_35 (by decide) ?_
      refine lv_goto (tgt := 40) hx hb dL_areEdges_36 (by decide) ?_
      refine W.widen (k := 2) (n := 12) (Nat.le_of_ble_eq_true rfl) (Nat.le_of_ble_eq_true rfl) ?_
      exact b40 _ _ _ D13 a1 a2 a3 1 hP hS (lv_sub hl [0, 1, 2] rfl) h
