theorem dL_areVertices_0 : decode cL_areVertices 0 = .ok (.iconst 0, 1) := by decide +kernel
theorem dL_areVertices_1 : decode cL_areVertices 1 = .ok (.istore_n 3, 1) := by decide +kernel
theorem dL_areVertices_2 : decode cL_areVertices 2 = .ok (.aload_n 0, 1) := by decide +kernel
theorem dL_areVertices_3 : decode cL_areVertices 3 = .ok (.iconst 1, 1) := by decide +kernel
theorem dL_areVertices_4 : decode cL_areVertices 4 = .ok (.aload_n 2, 1) := by decide +kernel
theorem dL_areVertices_5 : decode cL_areVertices 5 = .ok (.iconst 0, 1) := by decide +kernel
theorem dL_areVertices_6 : decode cL_areVertices 6 = .ok (.iaload, 1) := by decide +kernel
theorem dL_areVertices_7 : decode cL_areVertices 7 = .ok (.iconst 5, 1) := by decide +kernel
theorem dL_areVertices_8 : decode cL_areVertices 8 = .ok (.irem, 1) := by decide +kernel
theorem dL_areVertices_9 : decode cL_areVertices 9 = .ok (.iadd, 1) := by decide +kernel
theorem dL_areVertices_10 : decode cL_areVertices 10 = .ok (.aload_n 0, 1) := by decide +kernel
theorem dL_areVertices_11 : decode cL_areVertices 11 = .ok (.invokevirtual 89, 3) := by decide +kernel
theorem dL_areVertices_14 : decode cL_areVertices 14 = .ok (.invokestatic 120, 3) := by decide +kernel
theorem dL_areVertices_17 : decode cL_areVertices 17 = .ok (.sipush (-601), 3) := by decide +kernel
theorem dL_areVertices_20 : decode cL_areVertices 20 = .ok (.if_icmp .ne 19, 3) := by decide +kernel
theorem dL_areVertices_23 : decode cL_areVertices 23 = .ok (.aload_n 0, 1) := by decide +kernel
theorem dL_areVertices_24 : decode cL_areVertices 24 = .ok (.iconst 3, 1) := by decide +kernel
theorem dL_areVertices_25 : decode cL_areVertices 25 = .ok (.iconst (-1), 1) := by decide +kernel
theorem dL_areVertices_26 : decode cL_areVertices 26 = .ok (.invokestatic 120, 3) := by decide +kernel
theorem dL_areVertices_29 : decode cL_areVertices 29 = .ok (.sipush (-601), 3) := by decide +kernel
theorem dL_areVertices_32 : decode cL_areVertices 32 = .ok (.if_icmp .ne 7, 3) := by decide +kernel
theorem dL_areVertices_35 : decode cL_areVertices 35 = .ok (.iconst 1, 1) := by decide +kernel
theorem dL_areVertices_36 : decode cL_areVertices 36 = .ok (.goto 4, 3) := by decide +kernel
theorem dL_areVertices_39 : decode cL_areVertices 39 = .ok (.iconst 0, 1) := by decide +kernel
theorem dL_areVertices_40 : decode cL_areVertices 40 = .ok (.istore 4, 2) := by decide +kernel
theorem dL_areVertices_42 : decode cL_areVertices 42 = .ok (.iconst 0, 1) := by decide +kernel
theorem dL_areVertices_43 : decode cL_areVertices 43 = .ok (.istore 5, 2) := by decide +kernel
theorem dL_areVertices_45 : decode cL_areVertices 45 = .ok (.iload 5, 2) := by decide +kernel
theorem dL_areVertices_47 : decode cL_areVertices 47 = .ok (.aload_n 0, 1) := by decide +kernel
theorem dL_areVertices_48 : decode cL_areVertices 48 = .ok (.invokevirtual 89, 3) := by decide +kernel
theorem dL_areVertices_51 : decode cL_areVertices 51 = .ok (.if_icmp .ge 346, 3) := by decide +kernel
theorem dL_areVertices_54 : decode cL_areVertices 54 = .ok (.iload 4, 2) := by decide +kernel
theorem dL_areVertices_56 : decode cL_areVertices 56 = .ok (.ifCond .eq 341, 3) := by decide +kernel
theorem dL_areVertices_59 : decode cL_areVertices 59 = .ok (.iconst 0, 1) := by decide +kernel
theorem dL_areVertices_60 : decode cL_areVertices 60 = .ok (.istore 6, 2) := by decide +kernel
theorem dL_areVertices_62 : decode cL_areVertices 62 = .ok (.iconst 0, 1) := by decide +kernel
theorem dL_areVertices_63 : decode cL_areVertices 63 = .ok (.istore 7, 2) := by decide +kernel
theorem dL_areVertices_65 : decode cL_areVertices 65 = .ok (.iconst 0, 1) := by decide +kernel
theorem dL_areVertices_66 : decode cL_areVertices 66 = .ok (.istore 8, 2) := by decide +kernel
theorem dL_areVertices_68 : decode cL_areVertices 68 = .ok (.iload 8, 2) := by decide +kernel
theorem dL_areVertices_70 : decode cL_areVertices 70 = .ok (.aload_n 2, 1) := by decide +kernel
theorem dL_areVertices_71 : decode cL_areVertices 71 = .ok (.iconst 0, 1) := by decide +kernel
theorem dL_areVertices_72 : decode cL_areVertices 72 = .ok (.iaload, 1) := by decide +kernel
theorem dL_areVertices_73 : decode cL_areVertices 73 = .ok (.if_icmp .ge 127, 3) := by decide +kernel
theorem dL_areVertices_76 : decode cL_areVertices 76 = .ok (.iload 6, 2) := by decide +kernel
theorem dL_areVertices_78 : decode cL_areVertices 78 = .ok (.aload_n 0, 1) := by decide +kernel
theorem dL_areVertices_79 : decode cL_areVertices 79 = .ok (.aload_n 1, 1) := by decide +kernel
theorem dL_areVertices_80 : decode cL_areVertices 80 = .ok (.iload 8, 2) := by decide +kernel
theorem dL_areVertices_82 : decode cL_areVertices 82 = .ok (.iload 5, 2) := by decide +kernel
theorem dL_areVertices_84 : decode cL_areVertices 84 = .ok (.invokestatic 124, 3) := by decide +kernel
theorem dL_areVertices_87 : decode cL_areVertices 87 = .ok (.ifCond .eq 7, 3) := by decide +kernel
theorem dL_areVertices_90 : decode cL_areVertices 90 = .ok (.iconst 1, 1) := by decide +kernel
theorem dL_areVertices_91 : decode cL_areVertices 91 = .ok (.goto 4, 3) := by decide +kernel
theorem dL_areVertices_94 : decode cL_areVertices 94 = .ok (.iconst 0, 1) := by decide +kernel
theorem dL_areVertices_95 : decode cL_areVertices 95 = .ok (.iadd, 1) := by decide +kernel
theorem dL_areVertices_96 : decode cL_areVertices 96 = .ok (.istore 6, 2) := by decide +kernel
theorem dL_areVertices_98 : decode cL_areVertices 98 = .ok (.iload 7, 2) := by decide +kernel
theorem dL_areVertices_100 : decode cL_areVertices 100 = .ok (.aload_n 0, 1) := by decide +kernel
theorem dL_areVertices_101 : decode cL_areVertices 101 = .ok (.iload 5, 2) := by decide +kernel
theorem dL_areVertices_103 : decode cL_areVertices 103 = .ok (.invokevirtual 26, 3) := by decide +kernel
theorem dL_areVertices_106 : decode cL_areVertices 106 = .ok (.iconst 1, 1) := by decide +kernel
theorem dL_areVertices_107 : decode cL_areVertices 107 = .ok (.if_icmp .ne 83, 3) := by decide +kernel
theorem dL_areVertices_110 : decode cL_areVertices 110 = .ok (.aload_n 0, 1) := by decide +kernel
theorem dL_areVertices_111 : decode cL_areVertices 111 = .ok (.iload 5, 2) := by decide +kernel
theorem dL_areVertices_113 : decode cL_areVertices 113 = .ok (.invokevirtual 32, 3) := by decide +kernel
theorem dL_areVertices_116 : decode cL_areVertices 116 = .ok (.iconst 1, 1) := by decide +kernel
theorem dL_areVertices_117 : decode cL_areVertices 117 = .ok (.if_icmp .ne 73, 3) := by decide +kernel
theorem dL_areVertices_120 : decode cL_areVertices 120 = .ok (.aload_n 1, 1) := by decide +kernel
theorem dL_areVertices_121 : decode cL_areVertices 121 = .ok (.iconst 4, 1) := by decide +kernel
theorem dL_areVertices_122 : decode cL_areVertices 122 = .ok (.iload 8, 2) := by decide +kernel
theorem dL_areVertices_124 : decode cL_areVertices 124 = .ok (.imul, 1) := by decide +kernel
theorem dL_areVertices_125 : decode cL_areVertices 125 = .ok (.iaload, 1) := by decide +kernel
theorem dL_areVertices_126 : decode cL_areVertices 126 = .ok (.aload_n 0, 1) := by decide +kernel
theorem dL_areVertices_127 : decode cL_areVertices 127 = .ok (.iload 5, 2) := by decide +kernel
theorem dL_areVertices_129 : decode cL_areVertices 129 = .ok (.invokevirtual 23, 3) := by decide +kernel
theorem dL_areVertices_132 : decode cL_areVertices 132 = .ok (.if_icmp .ne 20, 3) := by decide +kernel
theorem dL_areVertices_135 : decode cL_areVertices 135 = .ok (.aload_n 1, 1) := by decide +kernel
theorem dL_areVertices_136 : decode cL_areVertices 136 = .ok (.iconst 4, 1) := by decide +kernel
theorem dL_areVertices_137 : decode cL_areVertices 137 = .ok (.iload 8, 2) := by decide +kernel
theorem dL_areVertices_139 : decode cL_areVertices 139 = .ok (.imul, 1) := by decide +kernel
theorem dL_areVertices_140 : decode cL_areVertices 140 = .ok (.iconst 1, 1) := by decide +kernel
theorem dL_areVertices_141 : decode cL_areVertices 141 = .ok (.iadd, 1) := by decide +kernel
theorem dL_areVertices_142 : decode cL_areVertices 142 = .ok (.iaload, 1) := by decide +kernel
theorem dL_areVertices_143 : decode cL_areVertices 143 = .ok (.aload_n 0, 1) := by decide +kernel
theorem dL_areVertices_144 : decode cL_areVertices 144 = .ok (.iload 5, 2) := by decide +kernel
theorem dL_areVertices_146 : decode cL_areVertices 146 = .ok (.invokevirtual 29, 3) := by decide +kernel
theorem dL_areVertices_149 : decode cL_areVertices 149 = .ok (.if_icmp .eq 37, 3) := by decide +kernel
theorem dL_areVertices_152 : decode cL_areVertices 152 = .ok (.aload_n 1, 1) := by decide +kernel
theorem dL_areVertices_153 : decode cL_areVertices 153 = .ok (.iconst 4, 1) := by decide +kernel
theorem dL_areVertices_154 : decode cL_areVertices 154 = .ok (.iload 8, 2) := by decide +kernel
theorem dL_areVertices_156 : decode cL_areVertices 156 = .ok (.imul, 1) := by decide +kernel
theorem dL_areVertices_157 : decode cL_areVertices 157 = .ok (.iconst 2, 1) := by decide +kernel
theorem dL_areVertices_158 : decode cL_areVertices 158 = .ok (.iadd, 1) := by decide +kernel
theorem dL_areVertices_159 : decode cL_areVertices 159 = .ok (.iaload, 1) := by decide +kernel
theorem dL_areVertices_160 : decode cL_areVertices 160 = .ok (.aload_n 0, 1) := by decide +kernel
theorem dL_areVertices_161 : decode cL_areVertices 161 = .ok (.iload 5, 2) := by decide +kernel
theorem dL_areVertices_163 : decode cL_areVertices 163 = .ok (.invokevirtual 23, 3) := by decide +kernel
theorem dL_areVertices_166 : decode cL_areVertices 166 = .ok (.if_icmp .ne 24, 3) := by decide +kernel
theorem dL_areVertices_169 : decode cL_areVertices 169 = .ok (.aload_n 1, 1) := by decide +kernel
theorem dL_areVertices_170 : decode cL_areVertices 170 = .ok (.iconst 4, 1) := by decide +kernel
theorem dL_areVertices_171 : decode cL_areVertices 171 = .ok (.iload 8, 2) := by decide +kernel
theorem dL_areVertices_173 : decode cL_areVertices 173 = .ok (.imul, 1) := by decide +kernel
theorem dL_areVertices_174 : decode cL_areVertices 174 = .ok (.iconst 3, 1) := by decide +kernel
theorem dL_areVertices_175 : decode cL_areVertices 175 = .ok (.iadd, 1) := by decide +kernel
theorem dL_areVertices_176 : decode cL_areVertices 176 = .ok (.iaload, 1) := by decide +kernel
theorem dL_areVertices_177 : decode cL_areVertices 177 = .ok (.aload_n 0, 1) := by decide +kernel
theorem dL_areVertices_178 : decode cL_areVertices 178 = .ok (.iload 5, 2) := by decide +kernel
theorem dL_areVertices_180 : decode cL_areVertices 180 = .ok (.invokevirtual 29, 3) := by decide +kernel
theorem dL_areVertices_183 : decode cL_areVertices 183 = .ok (.if_icmp .ne 7, 3) := by decide +kernel
theorem dL_areVertices_186 : decode cL_areVertices 186 = .ok (.iconst 1, 1) := by decide +kernel
theorem dL_areVertices_187 : decode cL_areVertices 187 = .ok (.goto 4, 3) := by decide +kernel
theorem dL_areVertices_190 : decode cL_areVertices 190 = .ok (.iconst 0, 1) := by decide +kernel
theorem dL_areVertices_191 : decode cL_areVertices 191 = .ok (.iadd, 1) := by decide +kernel
theorem dL_areVertices_192 : decode cL_areVertices 192 = .ok (.istore 7, 2) := by decide +kernel
theorem dL_areVertices_194 : decode cL_areVertices 194 = .ok (.iinc 8 1, 3) := by decide +kernel
theorem dL_areVertices_197 : decode cL_areVertices 197 = .ok (.goto (-129), 3) := by decide +kernel
theorem dL_areVertices_200 : decode cL_areVertices 200 = .ok (.iload_n 3, 1) := by decide +kernel
theorem dL_areVertices_201 : decode cL_areVertices 201 = .ok (.aload_n 0, 1) := by decide +kernel
theorem dL_areVertices_202 : decode cL_areVertices 202 = .ok (.iload 5, 2) := by decide +kernel
theorem dL_areVertices_204 : decode cL_areVertices 204 = .ok (.invokevirtual 35, 3) := by decide +kernel
theorem dL_areVertices_207 : decode cL_areVertices 207 = .ok (.iadd, 1) := by decide +kernel
theorem dL_areVertices_208 : decode cL_areVertices 208 = .ok (.istore_n 3, 1) := by decide +kernel
theorem dL_areVertices_209 : decode cL_areVertices 209 = .ok (.aload_n 0, 1) := by decide +kernel
theorem dL_areVertices_210 : decode cL_areVertices 210 = .ok (.iload 5, 2) := by decide +kernel
theorem dL_areVertices_212 : decode cL_areVertices 212 = .ok (.invokevirtual 23, 3) := by decide +kernel
theorem dL_areVertices_215 : decode cL_areVertices 215 = .ok (.aload_n 0, 1) := by decide +kernel
theorem dL_areVertices_216 : decode cL_areVertices 216 = .ok (.iload 5, 2) := by decide +kernel
theorem dL_areVertices_218 : decode cL_areVertices 218 = .ok (.invokevirtual 26, 3) := by decide +kernel
theorem dL_areVertices_221 : decode cL_areVertices 221 = .ok (.invokestatic 128, 3) := by decide +kernel
theorem dL_areVertices_224 : decode cL_areVertices 224 = .ok (.ifCond .eq 52, 3) := by decide +kernel
theorem dL_areVertices_227 : decode cL_areVertices 227 = .ok (.aload_n 0, 1) := by decide +kernel
theorem dL_areVertices_228 : decode cL_areVertices 228 = .ok (.iload 5, 2) := by decide +kernel
theorem dL_areVertices_230 : decode cL_areVertices 230 = .ok (.invokevirtual 29, 3) := by decide +kernel
theorem dL_areVertices_233 : decode cL_areVertices 233 = .ok (.aload_n 0, 1) := by decide +kernel
theorem dL_areVertices_234 : decode cL_areVertices 234 = .ok (.iload 5, 2) := by decide +kernel
theorem dL_areVertices_236 : decode cL_areVertices 236 = .ok (.invokevirtual 32, 3) := by decide +kernel
theorem dL_areVertices_239 : decode cL_areVertices 239 = .ok (.invokestatic 128, 3) := by decide +kernel
theorem dL_areVertices_242 : decode cL_areVertices 242 = .ok (.ifCond .eq 34, 3) := by decide +kernel
theorem dL_areVertices_245 : decode cL_areVertices 245 = .ok (.aload_n 0, 1) := by decide +kernel
theorem dL_areVertices_246 : decode cL_areVertices 246 = .ok (.iload 5, 2) := by decide +kernel
theorem dL_areVertices_248 : decode cL_areVertices 248 = .ok (.invokevirtual 35, 3) := by decide +kernel
theorem dL_areVertices_251 : decode cL_areVertices 251 = .ok (.iconst 2, 1) := by decide +kernel
theorem dL_areVertices_252 : decode cL_areVertices 252 = .ok (.iload 6, 2) := by decide +kernel
theorem dL_areVertices_254 : decode cL_areVertices 254 = .ok (.imul, 1) := by decide +kernel
theorem dL_areVertices_255 : decode cL_areVertices 255 = .ok (.iload 7, 2) := by decide +kernel
theorem dL_areVertices_257 : decode cL_areVertices 257 = .ok (.isub, 1) := by decide +kernel
theorem dL_areVertices_258 : decode cL_areVertices 258 = .ok (.if_icmp .ne 18, 3) := by decide +kernel
theorem dL_areVertices_261 : decode cL_areVertices 261 = .ok (.iload 7, 2) := by decide +kernel
theorem dL_areVertices_263 : decode cL_areVertices 263 = .ok (.ifCond .gt 9, 3) := by decide +kernel
theorem dL_areVertices_266 : decode cL_areVertices 266 = .ok (.iload 6, 2) := by decide +kernel
theorem dL_areVertices_268 : decode cL_areVertices 268 = .ok (.iconst 1, 1) := by decide +kernel
theorem dL_areVertices_269 : decode cL_areVertices 269 = .ok (.if_icmp .le 7, 3) := by decide +kernel
theorem dL_areVertices_272 : decode cL_areVertices 272 = .ok (.iconst 1, 1) := by decide +kernel
theorem dL_areVertices_273 : decode cL_areVertices 273 = .ok (.goto 4, 3) := by decide +kernel
theorem dL_areVertices_276 : decode cL_areVertices 276 = .ok (.iconst 0, 1) := by decide +kernel
theorem dL_areVertices_277 : decode cL_areVertices 277 = .ok (.istore 4, 2) := by decide +kernel
theorem dL_areVertices_279 : decode cL_areVertices 279 = .ok (.iload 4, 2) := by decide +kernel
theorem dL_areVertices_281 : decode cL_areVertices 281 = .ok (.ifCond .eq 110, 3) := by decide +kernel
theorem dL_areVertices_284 : decode cL_areVertices 284 = .ok (.iload 5, 2) := by decide +kernel
theorem dL_areVertices_286 : decode cL_areVertices 286 = .ok (.ifCond .le 105, 3) := by decide +kernel
theorem dL_areVertices_289 : decode cL_areVertices 289 = .ok (.aload_n 0, 1) := by decide +kernel
theorem dL_areVertices_290 : decode cL_areVertices 290 = .ok (.iload 5, 2) := by decide +kernel
theorem dL_areVertices_292 : decode cL_areVertices 292 = .ok (.invokevirtual 23, 3) := by decide +kernel
theorem dL_areVertices_295 : decode cL_areVertices 295 = .ok (.i2l, 1) := by decide +kernel
theorem dL_areVertices_296 : decode cL_areVertices 296 = .ok (.aload_n 0, 1) := by decide +kernel
theorem dL_areVertices_297 : decode cL_areVertices 297 = .ok (.iload 5, 2) := by decide +kernel
theorem dL_areVertices_299 : decode cL_areVertices 299 = .ok (.iconst 1, 1) := by decide +kernel
theorem dL_areVertices_300 : decode cL_areVertices 300 = .ok (.isub, 1) := by decide +kernel
theorem dL_areVertices_301 : decode cL_areVertices 301 = .ok (.invokevirtual 26, 3) := by decide +kernel
theorem dL_areVertices_304 : decode cL_areVertices 304 = .ok (.i2l, 1) := by decide +kernel
theorem dL_areVertices_305 : decode cL_areVertices 305 = .ok (.lmul, 1) := by decide +kernel
theorem dL_areVertices_306 : decode cL_areVertices 306 = .ok (.aload_n 0, 1) := by decide +kernel
theorem dL_areVertices_307 : decode cL_areVertices 307 = .ok (.iload 5, 2) := by decide +kernel
theorem dL_areVertices_309 : decode cL_areVertices 309 = .ok (.iconst 1, 1) := by decide +kernel
theorem dL_areVertices_310 : decode cL_areVertices 310 = .ok (.isub, 1) := by decide +kernel
theorem dL_areVertices_311 : decode cL_areVertices 311 = .ok (.invokevirtual 23, 3) := by decide +kernel
theorem dL_areVertices_314 : decode cL_areVertices 314 = .ok (.i2l, 1) := by decide +kernel
theorem dL_areVertices_315 : decode cL_areVertices 315 = .ok (.aload_n 0, 1) := by decide +kernel
theorem dL_areVertices_316 : decode cL_areVertices 316 = .ok (.iload 5, 2) := by decide +kernel
theorem dL_areVertices_318 : decode cL_areVertices 318 = .ok (.invokevirtual 26, 3) := by decide +kernel
theorem dL_areVertices_321 : decode cL_areVertices 321 = .ok (.i2l, 1) := by decide +kernel
theorem dL_areVertices_322 : decode cL_areVertices 322 = .ok (.lmul, 1) := by decide +kernel
theorem dL_areVertices_323 : decode cL_areVertices 323 = .ok (.lsub, 1) := by decide +kernel
theorem dL_areVertices_324 : decode cL_areVertices 324 = .ok (.lstore 8, 2) := by decide +kernel
theorem dL_areVertices_326 : decode cL_areVertices 326 = .ok (.aload_n 0, 1) := by decide +kernel
theorem dL_areVertices_327 : decode cL_areVertices 327 = .ok (.iload 5, 2) := by decide +kernel
theorem dL_areVertices_329 : decode cL_areVertices 329 = .ok (.invokevirtual 29, 3) := by decide +kernel
theorem dL_areVertices_332 : decode cL_areVertices 332 = .ok (.i2l, 1) := by decide +kernel
theorem dL_areVertices_333 : decode cL_areVertices 333 = .ok (.aload_n 0, 1) := by decide +kernel
theorem dL_areVertices_334 : decode cL_areVertices 334 = .ok (.iload 5, 2) := by decide +kernel
theorem dL_areVertices_336 : decode cL_areVertices 336 = .ok (.iconst 1, 1) := by decide +kernel
theorem dL_areVertices_337 : decode cL_areVertices 337 = .ok (.isub, 1) := by decide +kernel
theorem dL_areVertices_338 : decode cL_areVertices 338 = .ok (.invokevirtual 32, 3) := by decide +kernel
theorem dL_areVertices_341 : decode cL_areVertices 341 = .ok (.i2l, 1) := by decide +kernel
theorem dL_areVertices_342 : decode cL_areVertices 342 = .ok (.lmul, 1) := by decide +kernel
theorem dL_areVertices_343 : decode cL_areVertices 343 = .ok (.aload_n 0, 1) := by decide +kernel
theorem dL_areVertices_344 : decode cL_areVertices 344 = .ok (.iload 5, 2) := by decide +kernel
theorem dL_areVertices_346 : decode cL_areVertices 346 = .ok (.iconst 1, 1) := by decide +kernel
theorem dL_areVertices_347 : decode cL_areVertices 347 = .ok (.isub, 1) := by decide +kernel
theorem dL_areVertices_348 : decode cL_areVertices 348 = .ok (.invokevirtual 29, 3) := by decide +kernel
theorem dL_areVertices_351 : decode cL_areVertices 351 = .ok (.i2l, 1) := by decide +kernel
theorem dL_areVertices_352 : decode cL_areVertices 352 = .ok (.aload_n 0, 1) := by decide +kernel
theorem dL_areVertices_353 : decode cL_areVertices 353 = .ok (.iload 5, 2) := by decide +kernel
theorem dL_areVertices_355 : decode cL_areVertices 355 = .ok (.invokevirtual 32, 3) := by decide +kernel
theorem dL_areVertices_358 : decode cL_areVertices 358 = .ok (.i2l, 1) := by decide +kernel
theorem dL_areVertices_359 : decode cL_areVertices 359 = .ok (.lmul, 1) := by decide +kernel
theorem dL_areVertices_360 : decode cL_areVertices 360 = .ok (.lsub, 1) := by decide +kernel
theorem dL_areVertices_361 : decode cL_areVertices 361 = .ok (.lstore 10, 2) := by decide +kernel
theorem dL_areVertices_363 : decode cL_areVertices 363 = .ok (.lload 8, 2) := by decide +kernel
theorem dL_areVertices_365 : decode cL_areVertices 365 = .ok (.lconst 0, 1) := by decide +kernel
theorem dL_areVertices_366 : decode cL_areVertices 366 = .ok (.lcmp, 1) := by decide +kernel
theorem dL_areVertices_367 : decode cL_areVertices 367 = .ok (.ifCond .gt 17, 3) := by decide +kernel
theorem dL_areVertices_370 : decode cL_areVertices 370 = .ok (.lload 8, 2) := by decide +kernel
theorem dL_areVertices_372 : decode cL_areVertices 372 = .ok (.lconst 0, 1) := by decide +kernel
theorem dL_areVertices_373 : decode cL_areVertices 373 = .ok (.lcmp, 1) := by decide +kernel
theorem dL_areVertices_374 : decode cL_areVertices 374 = .ok (.ifCond .ne 14, 3) := by decide +kernel
theorem dL_areVertices_377 : decode cL_areVertices 377 = .ok (.lload 10, 2) := by decide +kernel
theorem dL_areVertices_379 : decode cL_areVertices 379 = .ok (.lconst 0, 1) := by decide +kernel
theorem dL_areVertices_380 : decode cL_areVertices 380 = .ok (.lcmp, 1) := by decide +kernel
theorem dL_areVertices_381 : decode cL_areVertices 381 = .ok (.ifCond .le 7, 3) := by decide +kernel
theorem dL_areVertices_384 : decode cL_areVertices 384 = .ok (.iconst 1, 1) := by decide +kernel
theorem dL_areVertices_385 : decode cL_areVertices 385 = .ok (.goto 4, 3) := by decide +kernel
theorem dL_areVertices_388 : decode cL_areVertices 388 = .ok (.iconst 0, 1) := by decide +kernel
theorem dL_areVertices_389 : decode cL_areVertices 389 = .ok (.istore 4, 2) := by decide +kernel
theorem dL_areVertices_391 : decode cL_areVertices 391 = .ok (.iinc 5 1, 3) := by decide +kernel
theorem dL_areVertices_394 : decode cL_areVertices 394 = .ok (.goto (-349), 3) := by decide +kernel
theorem dL_areVertices_397 : decode cL_areVertices 397 = .ok (.iload 4, 2) := by decide +kernel
theorem dL_areVertices_399 : decode cL_areVertices 399 = .ok (.ifCond .eq 17, 3) := by decide +kernel
theorem dL_areVertices_402 : decode cL_areVertices 402 = .ok (.iload_n 3, 1) := by decide +kernel
theorem dL_areVertices_403 : decode cL_areVertices 403 = .ok (.iconst 2, 1) := by decide +kernel
theorem dL_areVertices_404 : decode cL_areVertices 404 = .ok (.aload_n 0, 1) := by decide +kernel
theorem dL_areVertices_405 : decode cL_areVertices 405 = .ok (.invokevirtual 100, 3) := by decide +kernel
theorem dL_areVertices_408 : decode cL_areVertices 408 = .ok (.imul, 1) := by decide +kernel
theorem dL_areVertices_409 : decode cL_areVertices 409 = .ok (.if_icmp .ne 7, 3) := by decide +kernel
theorem dL_areVertices_412 : decode cL_areVertices 412 = .ok (.iconst 1, 1) := by decide +kernel
theorem dL_areVertices_413 : decode cL_areVertices 413 = .ok (.goto 4, 3) := by decide +kernel
theorem dL_areVertices_416 : decode cL_areVertices 416 = .ok (.iconst 0, 1) := by decide +kernel
theorem dL_areVertices_417 : decode cL_areVertices 417 = .ok (.ireturn, 1) := by decide +kernel
def wL_areVertices : List Cond := Cond.code yL_areVertices cL_areVertices 12 (some .boolean) :: WA
def f_L_areVertices_b397 (F : Nat) (S : CS) (D : CD) (x0 : Nat) (x3 : Int32) (x4 : Int32) : Option (CD × Int32) := (if x4 = 0 then okB 0 (some (D, 0)) else ckK S x0 6 <| cal (f_X6_edges F S D x0) fun t5 => (if x3 = (2 * t5) then okB 1 (some (D, 1)) else okB 0 (some (D, 0))))
def f_L_areVertices_b391 (F : Nat) (S : CS) (k45 : CD → Nat → Nat → Nat → Int32 → Int32 → Int32 → Option (CD × Int32)) (D : CD) (x0 : Nat) (x1 : Nat) (x2 : Nat) (x3 : Int32) (x4 : Int32) (x5 : Int32) : Option (CD × Int32) := k45 D x0 x1 x2 x3 x4 (x5 + 1)
def f_L_areVertices_b277 (F : Nat) (S : CS) (k45 : CD → Nat → Nat → Nat → Int32 → Int32 → Int32 → Option (CD × Int32)) (D : CD) (x0 : Nat) (x1 : Nat) (x2 : Nat) (x3 : Int32) (x5 : Int32) (s0 : Int32) : Option (CD × Int32) := (if s0 = 0 then f_L_areVertices_b391 F S k45 D x0 x1 x2 x3 s0 x5 else (if x5 ≤ 0 then f_L_areVertices_b391 F S k45 D x0 x1 x2 x3 s0 x5 else ckK S x0 6 <| cal (f_X6_xNumerator F S D x0 x5) fun t5 => cal (f_X6_xDenominator F S D x0 (x5 - 1)) fun t7 => cal (f_X6_xNumerator F S D x0 (x5 - 1)) fun t9 => cal (f_X6_xDenominator F S D x0 x5) fun t11 => cal (f_X6_yNumerator F S D x0 x5) fun t13 => cal (f_X6_yDenominator F S D x0 (x5 - 1)) fun t15 => cal (f_X6_yNumerator F S D x0 (x5 - 1)) fun t17 => cal (f_X6_yDenominator F S D x0 x5) fun t19 => (if 0 < (lg_cmp ((t5.toInt64 * t7.toInt64) - (t9.toInt64 * t11.toInt64)) 0) then f_L_areVertices_b391 F S k45 D x0 x1 x2 x3 1 x5 else (if (lg_cmp ((t5.toInt64 * t7.toInt64) - (t9.toInt64 * t11.toInt64)) 0) = 0 then (if (lg_cmp ((t13.toInt64 * t15.toInt64) - (t17.toInt64 * t19.toInt64)) 0) ≤ 0 then f_L_areVertices_b391 F S k45 D x0 x1 x2 x3 0 x5 else f_L_areVertices_b391 F S k45 D x0 x1 x2 x3 1 x5) else f_L_areVertices_b391 F S k45 D x0 x1 x2 x3 0 x5))))
def f_L_areVertices_b191 (F : Nat) (S : CS) (k45 : CD → Nat → Nat → Nat → Int32 → Int32 → Int32 → Option (CD × Int32)) (k68 : CD → Nat → Nat → Nat → Int32 → Int32 → Int32 → Int32 → Int32 → Option (CD × Int32)) (D : CD) (x0 : Nat) (x1 : Nat) (x2 : Nat) (x3 : Int32) (x5 : Int32) (x6 : Int32) (x8 : Int32) (s0 : Int32) (s1 : Int32) : Option (CD × Int32) := k68 D x0 x1 x2 x3 x5 x6 (s1 + s0) (x8 + 1)
def f_L_areVertices_b152 (F : Nat) (S : CS) (k45 : CD → Nat → Nat → Nat → Int32 → Int32 → Int32 → Option (CD × Int32)) (k68 : CD → Nat → Nat → Nat → Int32 → Int32 → Int32 → Int32 → Int32 → Option (CD × Int32)) (D : CD) (x0 : Nat) (x1 : Nat) (x2 : Nat) (x3 : Int32) (x5 : Int32) (x6 : Int32) (x8 : Int32) (s0 : Int32) : Option (CD × Int32) := ckK S x1 8 <| rdI (S.2.2.2 x1) (D.2.2.1 x1) ((4 * x8) + 2) fun t2 => ckK S x0 6 <| cal (f_X6_xNumerator F S D x0 x5) fun t7 => (if t2 = t7 then rdI (S.2.2.2 x1) (D.2.2.1 x1) ((4 * x8) + 3) fun t9 => cal (f_X6_yNumerator F S D x0 x5) fun t13 => (if t9 = t13 then f_L_areVertices_b191 F S k45 k68 D x0 x1 x2 x3 x5 x6 x8 1 s0 else f_L_areVertices_b191 F S k45 k68 D x0 x1 x2 x3 x5 x6 x8 0 s0) else f_L_areVertices_b191 F S k45 k68 D x0 x1 x2 x3 x5 x6 x8 0 s0)
def f_L_areVertices_b95 (F : Nat) (S : CS) (k45 : CD → Nat → Nat → Nat → Int32 → Int32 → Int32 → Option (CD × Int32)) (k68 : CD → Nat → Nat → Nat → Int32 → Int32 → Int32 → Int32 → Int32 → Option (CD × Int32)) (D : CD) (x0 : Nat) (x1 : Nat) (x2 : Nat) (x3 : Int32) (x5 : Int32) (x7 : Int32) (x8 : Int32) (s0 : Int32) (s1 : Int32) : Option (CD × Int32) := ckK S x0 6 <| cal (f_X6_xDenominator F S D x0 x5) fun t3 => (if t3 = 1 then cal (f_X6_yDenominator F S D x0 x5) fun t6 => (if t6 = 1 then ckK S x1 8 <| rdI (S.2.2.2 x1) (D.2.2.1 x1) (4 * x8) fun t9 => cal (f_X6_xNumerator F S D x0 x5) fun t13 => (if t9 = t13 then rdI (S.2.2.2 x1) (D.2.2.1 x1) ((4 * x8) + 1) fun t15 => cal (f_X6_yNumerator F S D x0 x5) fun t19 => (if t15 = t19 then f_L_areVertices_b191 F S k45 k68 D x0 x1 x2 x3 x5 (s1 + s0) x8 1 x7 else f_L_areVertices_b152 F S k45 k68 D x0 x1 x2 x3 x5 (s1 + s0) x8 x7) else f_L_areVertices_b152 F S k45 k68 D x0 x1 x2 x3 x5 (s1 + s0) x8 x7) else f_L_areVertices_b191 F S k45 k68 D x0 x1 x2 x3 x5 (s1 + s0) x8 0 x7) else f_L_areVertices_b191 F S k45 k68 D x0 x1 x2 x3 x5 (s1 + s0) x8 0 x7)
def f_L_areVertices_L68 (F : Nat) (S : CS) (k45 : CD → Nat → Nat → Nat → Int32 → Int32 → Int32 → Option (CD × Int32)) : Nat → CD → Nat → Nat → Nat → Int32 → Int32 → Int32 → Int32 → Int32 → Option (CD × Int32)
  | 0, _, _, _, _, _, _, _, _, _ => none
  | n68 + 1, D, x0, x1, x2, x3, x5, x6, x7, x8 => ckK S x2 8 <| rdI (S.2.2.2 x2) (D.2.2.1 x2) 0 fun t2 => (if t2 ≤ x8 then ckK S x0 6 <| cal (f_X6_degree F S D x0 x5) fun t8 => cal (f_X6_xNumerator F S D x0 x5) fun t10 => cal (f_X6_xDenominator F S D x0 x5) fun t12 => cal (f_L_isLowest F S D t10 t12) fun t14 => (if t14 = 0 then f_L_areVertices_b277 F S k45 D x0 x1 x2 (x3 + t8) x5 0 else cal (f_X6_yNumerator F S D x0 x5) fun t17 => cal (f_X6_yDenominator F S D x0 x5) fun t19 => cal (f_L_isLowest F S D t17 t19) fun t21 => (if t21 = 0 then f_L_areVertices_b277 F S k45 D x0 x1 x2 (x3 + t8) x5 0 else cal (f_X6_degree F S D x0 x5) fun t24 => (if t24 = ((2 * x6) - x7) then (if 0 < x7 then f_L_areVertices_b277 F S k45 D x0 x1 x2 (x3 + t8) x5 1 else (if x6 ≤ 1 then f_L_areVertices_b277 F S k45 D x0 x1 x2 (x3 + t8) x5 0 else f_L_areVertices_b277 F S k45 D x0 x1 x2 (x3 + t8) x5 1)) else f_L_areVertices_b277 F S k45 D x0 x1 x2 (x3 + t8) x5 0))) else cal (f_L_isOn F S D x0 x1 x8 x5) fun t29 => (if t29 = 0 then f_L_areVertices_b95 F S k45 ((f_L_areVertices_L68 F S k45 n68)) D x0 x1 x2 x3 x5 x7 x8 0 x6 else f_L_areVertices_b95 F S k45 ((f_L_areVertices_L68 F S k45 n68)) D x0 x1 x2 x3 x5 x7 x8 1 x6))
def f_L_areVertices_L45 (F : Nat) (S : CS) : Nat → CD → Nat → Nat → Nat → Int32 → Int32 → Int32 → Option (CD × Int32)
  | 0, _, _, _, _, _, _, _ => none
  | n45 + 1, D, x0, x1, x2, x3, x4, x5 => ckK S x0 6 <| cal (f_X6_vertices F S D x0) fun t3 => (if t3 ≤ x5 then f_L_areVertices_b397 F S D x0 x3 x4 else (if x4 = 0 then f_L_areVertices_b397 F S D x0 x3 x4 else f_L_areVertices_L68 F S ((f_L_areVertices_L45 F S n45)) F D x0 x1 x2 x3 x5 0 0 0))
def f_L_areVertices (F : Nat) (S : CS) (D : CD) (a1 : Nat) (a2 : Nat) (a3 : Nat) : Option (CD × Int32) := ckK S a3 8 <| rdI (S.2.2.2 a3) (D.2.2.1 a3) 0 fun t2 => ckK S a1 6 <| cal (f_X6_vertices F S D a1) fun t7 => caM (f_L_of F S D a1 (1 + (t2 - t2 / 5 * 5)) t7) fun D9 t10 => (if t10 = ((-601)) then caM (f_L_of F S D9 a1 3 ((-1))) fun D13 t14 => (if t14 = ((-601)) then f_L_areVertices_L45 F S F D13 a1 a2 a3 0 1 0 else f_L_areVertices_L45 F S F D13 a1 a2 a3 0 0 0) else f_L_areVertices_L45 F S F D9 a1 a2 a3 0 0 0)
set_option maxRecDepth 100000 in
set_option maxHeartbeats 4000000 in
theorem m_L_areVertices (l : Launch) (hfl : l.stackTraces = false) (G : cG) (F : Nat) (S : CS) (z9 : Nat × Nat) (D D2 : CD) (a1 : Nat) (a2 : Nat) (a3 : Nat) (r : Int32) (h : f_L_areVertices F S D a1 a2 a3 = some (D2, r)) : lMI l yL_areVertices wL_areVertices ({ frames := 11, cells := 2, slots := 12, locals := 430 }) G S z9 [.ref a1, .ref a2, .ref a3] D D2 r 2 12 := by
  refine lBody (cc := cL_areVertices) (maxL := 12) (ret := (some .boolean)) (by decide) rfl rfl ?_
  intro sz p e s m below meth c hC hv
  have hC0 := hC
  obtain ⟨hx, hb, -, hts, hown, -, hml, -, -, -⟩ := hC0
  have hP := hv.1.1.2.1
  have hv := lPr_of hv
  have hS : va_S (cA G S sz) s.heap s.heap [] := va_S.rf
  have b397 : ∀ (H : Heap) (locs : List Loc) (ls : Array Slot) (D : CD) (x0 : Nat) (x3 : Int32) (x4 : Int32), va_P G.1 vwCl (cW G S D) H → va_S (cA G S sz) s.heap H locs → lv_has ls 12 [(0, .ref x0), (3, .int x3), (4, .int x4)] → f_L_areVertices_b397 F S D x0 x3 x4 = some (D2, r) → W p l e (headSpec wL_areVertices ({ frames := 11, cells := 2, slots := 12, locals := 430 })).room s m ([.ref a1, .ref a2, .ref a3] : List Value).toArray below meth c H locs 2 12 (lQI below G S D2 sz ([.ref a1, .ref a2, .ref a3] : List Value).toArray s r 2 12) (F0 m 397 ls []) := by
    intro H locs ls D x0 x3 x4 hP hS hl h
    unfold f_L_areVertices_b397 at h
    refine lv_iload hx hb dL_areVertices_397 (lv_at hl 2 rfl) ?_
    refine lv_if_eq (tgt := 416) hx hb dL_areVertices_399 (by decide) (fun u1 => ?_) (fun u1 => ?_)
    · have h := ite_t u1 h
      refine lv_iconst (v := 0) hx hb dL_areVertices_416 (by decide) ?_
      obtain ⟨z2, h⟩ := okB_el h
      cases h
      exact g_zret hC hP hS z2 rfl (Nat.le_of_ble_eq_true rfl) (Nat.le_of_ble_eq_true rfl) dL_areVertices_417
    · have h := ite_f u1 h
      refine lv_iload_n hx hb dL_areVertices_402 rfl (lv_at hl 1 rfl) ?_
      refine lv_iconst (v := 2) hx hb dL_areVertices_403 (by decide) ?_
      refine lv_aload_n hx hb dL_areVertices_404 rfl (lv_at hl 0 rfl) ?_
      obtain ⟨z3, h⟩ := ckK_el h
      obtain ⟨t5, e4, h⟩ := cal_el h
      refine g_VI (As := []) (rest := [.int 2, .int x3]) hC hP hS z3.1 (cE_6 z3.2) (C := RX6) (T := TX6) (N := 8) rfl (m_X6_edges l G F S D x0 t5 e4) (cwV 0 hts (gVA wa_226 wa_227 wa_228 (hWCA _ wc_66) (hWCA _ wc_75) hWCA) rfl rfl rfl (by decide +kernel) ⟨Nat.le_of_ble_eq_true rfl, Nat.le_of_ble_eq_true rfl⟩) rfl hl.1 rfl (Nat.le_of_ble_eq_true rfl) dL_areVertices_405 ⟨Nat.le_of_ble_eq_true rfl, Nat.le_of_ble_eq_true rfl⟩ (fun H locs hP hS => ?_)
      refine lv_imul hx hb dL_areVertices_408 ?_
      refine lv_icmp_ne (tgt := 416) hx hb dL_areVertices_409 (by decide) (fun u6 => ?_) (fun u6 => ?_)
      · have h := ite_f u6 h
        refine lv_iconst (v := 0) hx hb dL_areVertices_416 (by decide) ?_
        obtain ⟨z7, h⟩ := okB_el h
        cases h
        exact g_zret hC hP hS z7 rfl (Nat.le_of_ble_eq_true rfl) (Nat.le_of_ble_eq_true rfl) dL_areVertices_417
      · have h := ite_t u6 h
        refine lv_iconst (v := 1) hx hb dL_areVertices_412 (by decide) ?_
        refine lv_goto (tgt := 417) hx hb dL_areVertices_413 (by decide) ?_
        obtain ⟨z8, h⟩ := okB_el h
        cases h
        exact g_zret hC hP hS z8 rfl (Nat.le_of_ble_eq_true rfl) (Nat.le_of_ble_eq_true rfl) dL_areVertices_417
  have L45 : ∀ (n45 : Nat) (H : Heap) (locs : List Loc) (ls : Array Slot) (D : CD) (x0 : Nat) (x1 : Nat) (x2 : Nat) (x3 : Int32) (x4 : Int32) (x5 : Int32), va_P G.1 vwCl (cW G S D) H → va_S (cA G S sz) s.heap H locs → lv_has ls 12 [(0, .ref x0), (1, .ref x1), (2, .ref x2), (3, .int x3), (4, .int x4), (5, .int x5)] → f_L_areVertices_L45 F S n45 D x0 x1 x2 x3 x4 x5 = some (D2, r) → W p l e (headSpec wL_areVertices ({ frames := 11, cells := 2, slots := 12, locals := 430 })).room s m ([.ref a1, .ref a2, .ref a3] : List Value).toArray below meth c H locs 2 12 (lQI below G S D2 sz ([.ref a1, .ref a2, .ref a3] : List Value).toArray s r 2 12) (F0 m 45 ls []) := by
    intro n45
    induction n45 with
    | zero =>
      intro H locs ls D x0 x1 x2 x3 x4 x5 hP hS hl h
      rw [f_L_areVertices_L45] at h; cases h
    | succ n45 ih45 =>
      have b391 : ∀ (H : Heap) (locs : List Loc) (ls : Array Slot) (D : CD) (x0 : Nat) (x1 : Nat) (x2 : Nat) (x3 : Int32) (x4 : Int32) (x5 : Int32), va_P G.1 vwCl (cW G S D) H → va_S (cA G S sz) s.heap H locs → lv_has ls 12 [(0, .ref x0), (1, .ref x1), (2, .ref x2), (3, .int x3), (4, .int x4), (5, .int x5)] → f_L_areVertices_b391 F S ((f_L_areVertices_L45 F S n45)) D x0 x1 x2 x3 x4 x5 = some (D2, r) → W p l e (headSpec wL_areVertices ({ frames := 11, cells := 2, slots := 12, locals := 430 })).room s m ([.ref a1, .ref a2, .ref a3] : List Value).toArray below meth c H locs 2 12 (lQI below G S D2 sz ([.ref a1, .ref a2, .ref a3] : List Value).toArray s r 2 12) (F0 m 391 ls []) := by
        intro H locs ls D x0 x1 x2 x3 x4 x5 hP hS hl h
        unfold f_L_areVertices_b391 at h
        refine lv_iinc (v := x5 + 1) (lv' := [(5, .int (x5 + 1)), (0, .ref x0), (1, .ref x1), (2, .ref x2), (3, .int x3), (4, .int x4)]) hx hb dL_areVertices_391 hl (k := 5) rfl rfl (by decide) rfl (fun ls hl => ?_)
        refine lv_goto (tgt := 45) hx hb dL_areVertices_394 (by decide) ?_
        refine W.widen (k := 2) (n := 12) (Nat.le_of_ble_eq_true rfl) (Nat.le_of_ble_eq_true rfl) ?_
        exact ih45 _ _ _ D x0 x1 x2 x3 x4 (x5 + 1) hP hS (lv_sub hl [1, 2, 3, 4, 5, 0] rfl) h
      have b277 : ∀ (H : Heap) (locs : List Loc) (ls : Array Slot) (D : CD) (x0 : Nat) (x1 : Nat) (x2 : Nat) (x3 : Int32) (x5 : Int32) (s0 : Int32), va_P G.1 vwCl (cW G S D) H → va_S (cA G S sz) s.heap H locs → lv_has ls 12 [(0, .ref x0), (1, .ref x1), (2, .ref x2), (3, .int x3), (5, .int x5)] → f_L_areVertices_b277 F S ((f_L_areVertices_L45 F S n45)) D x0 x1 x2 x3 x5 s0 = some (D2, r) → W p l e (headSpec wL_areVertices ({ frames := 11, cells := 2, slots := 12, locals := 430 })).room s m ([.ref a1, .ref a2, .ref a3] : List Value).toArray below meth c H locs 2 12 (lQI below G S D2 sz ([.ref a1, .ref a2, .ref a3] : List Value).toArray s r 2 12) (F0 m 277 ls [.int s0]) := by
        intro H locs ls D x0 x1 x2 x3 x5 s0 hP hS hl h
        unfold f_L_areVertices_b277 at h
        refine lv_istore (lv' := [(4, .int s0), (0, .ref x0), (1, .ref x1), (2, .ref x2), (3, .int x3), (5, .int x5)]) hx hb dL_areVertices_277 hl (by decide) rfl (fun ls hl => ?_)
        refine lv_iload hx hb dL_areVertices_279 (lv_at hl 0 rfl) ?_
        refine lv_if_eq (tgt := 391) hx hb dL_areVertices_281 (by decide) (fun u1 => ?_) (fun u1 => ?_)
        · have h := ite_t u1 h
          refine W.widen (k := 2) (n := 12) (Nat.le_of_ble_eq_true rfl) (Nat.le_of_ble_eq_true rfl) ?_
          exact b391 _ _ _ D x0 x1 x2 x3 s0 x5 hP hS (lv_sub hl [1, 2, 3, 4, 0, 5] rfl) h
        · have h := ite_f u1 h
          refine lv_iload hx hb dL_areVertices_284 (lv_at hl 5 rfl) ?_
          refine lv_if_le (tgt := 391) hx hb dL_areVertices_286 (by decide) (fun u2 => ?_) (fun u2 => ?_)
          · have h := ite_t u2 h
            refine W.widen (k := 2) (n := 12) (Nat.le_of_ble_eq_true rfl) (Nat.le_of_ble_eq_true rfl) ?_
            exact b391 _ _ _ D x0 x1 x2 x3 s0 x5 hP hS (lv_sub hl [1, 2, 3, 4, 0, 5] rfl) h
          · have h := ite_f u2 h
            refine lv_aload_n hx hb dL_areVertices_289 rfl (lv_at hl 1 rfl) ?_
            refine lv_iload hx hb dL_areVertices_290 (lv_at hl 5 rfl) ?_
            obtain ⟨z3, h⟩ := ckK_el h
            obtain ⟨t5, e4, h⟩ := cal_el h
            refine g_VI (As := [.int x5]) (rest := []) hC hP hS z3.1 (cE_6 z3.2) (C := RX6) (T := TX6) (N := 8) rfl (m_X6_xNumerator l G F S D x0 x5 t5 e4) (cwV 1 hts (gVA wa_152 wa_153 wa_154 (hWCA _ wc_66) (hWCA _ wc_85) hWCA) rfl rfl rfl (by decide +kernel) ⟨Nat.le_of_ble_eq_true rfl, Nat.le_of_ble_eq_true rfl⟩) rfl hl.1 rfl (Nat.le_of_ble_eq_true rfl) dL_areVertices_292 ⟨Nat.le_of_ble_eq_true rfl, Nat.le_of_ble_eq_true rfl⟩ (fun H locs hP hS => ?_)
            refine lv_i2l (v := t5.toInt64) hx hb dL_areVertices_295 rfl ?_
            refine lv_aload_n hx hb dL_areVertices_296 rfl (lv_at hl 1 rfl) ?_
            refine lv_iload hx hb dL_areVertices_297 (lv_at hl 5 rfl) ?_
            refine lv_iconst (v := 1) hx hb dL_areVertices_299 (by decide) ?_
            refine lv_isub hx hb dL_areVertices_300 ?_
            obtain ⟨t7, e6, h⟩ := cal_el h
            refine g_VI (As := [.int (x5 - 1)]) (rest := [.long t5.toInt64]) hC hP hS z3.1 (cE_6 z3.2) (C := RX6) (T := TX6) (N := 8) rfl (m_X6_xDenominator l G F S D x0 (x5 - 1) t7 e6) (cwV 1 hts (gVA wa_155 wa_156 wa_157 (hWCA _ wc_66) (hWCA _ wc_93) hWCA) rfl rfl rfl (by decide +kernel) ⟨Nat.le_of_ble_eq_true rfl, Nat.le_of_ble_eq_true rfl⟩) rfl hl.1 rfl (Nat.le_of_ble_eq_true rfl) dL_areVertices_301 ⟨Nat.le_of_ble_eq_true rfl, Nat.le_of_ble_eq_true rfl⟩ (fun H locs hP hS => ?_)
            refine lv_i2l (v := t7.toInt64) hx hb dL_areVertices_304 rfl ?_
            refine lv_lmul hx hb dL_areVertices_305 ?_
            refine lv_aload_n hx hb dL_areVertices_306 rfl (lv_at hl 1 rfl) ?_
            refine lv_iload hx hb dL_areVertices_307 (lv_at hl 5 rfl) ?_
            refine lv_iconst (v := 1) hx hb dL_areVertices_309 (by decide) ?_
            refine lv_isub hx hb dL_areVertices_310 ?_
            obtain ⟨t9, e8, h⟩ := cal_el h
            refine g_VI (As := [.int (x5 - 1)]) (rest := [.long (t5.toInt64 * t7.toInt64)]) hC hP hS z3.1 (cE_6 z3.2) (C := RX6) (T := TX6) (N := 8) rfl (m_X6_xNumerator l G F S D x0 (x5 - 1) t9 e8) (cwV 1 hts (gVA wa_152 wa_153 wa_154 (hWCA _ wc_66) (hWCA _ wc_85) hWCA) rfl rfl rfl (by decide +kernel) ⟨Nat.le_of_ble_eq_true rfl, Nat.le_of_ble_eq_true rfl⟩) rfl hl.1 rfl (Nat.le_of_ble_eq_true rfl) dL_areVertices_311 ⟨Nat.le_of_ble_eq_true rfl, Nat.le_of_ble_eq_true rfl⟩ (fun H locs hP hS => ?_)
            refine lv_i2l (v := t9.toInt64) hx hb dL_areVertices_314 rfl ?_
            refine lv_aload_n hx hb dL_areVertices_315 rfl (lv_at hl 1 rfl) ?_
            refine lv_iload hx hb dL_areVertices_316 (lv_at hl 5 rfl) ?_
            obtain ⟨t11, e10, h⟩ := cal_el h
            refine g_VI (As := [.int x5]) (rest := [.long t9.toInt64, .long (t5.toInt64 * t7.toInt64)]) hC hP hS z3.1 (cE_6 z3.2) (C := RX6) (T := TX6) (N := 8) rfl (m_X6_xDenominator l G F S D x0 x5 t11 e10) (cwV 1 hts (gVA wa_155 wa_156 wa_157 (hWCA _ wc_66) (hWCA _ wc_93) hWCA) rfl rfl rfl (by decide +kernel) ⟨Nat.le_of_ble_eq_true rfl, Nat.le_of_ble_eq_true rfl⟩) rfl hl.1 rfl (Nat.le_of_ble_eq_true rfl) dL_areVertices_318 ⟨Nat.le_of_ble_eq_true rfl, Nat.le_of_ble_eq_true rfl⟩ (fun H locs hP hS => ?_)
            refine lv_i2l (v := t11.toInt64) hx hb dL_areVertices_321 rfl ?_
            refine lv_lmul hx hb dL_areVertices_322 ?_
            refine lv_lsub hx hb dL_areVertices_323 ?_
            refine lv_lstore (lv' := [(8, .long ((t5.toInt64 * t7.toInt64) - (t9.toInt64 * t11.toInt64))), (4, .int s0), (0, .ref x0), (1, .ref x1), (2, .ref x2), (3, .int x3), (5, .int x5)]) hx hb dL_areVertices_324 hl (by decide) rfl (fun ls hl => ?_)
            refine lv_aload_n hx hb dL_areVertices_326 rfl (lv_at hl 2 rfl) ?_
            refine lv_iload hx hb dL_areVertices_327 (lv_at hl 6 rfl) ?_
            obtain ⟨t13, e12, h⟩ := cal_el h
            refine g_VI (As := [.int x5]) (rest := []) hC hP hS z3.1 (cE_6 z3.2) (C := RX6) (T := TX6) (N := 8) rfl (m_X6_yNumerator l G F S D x0 x5 t13 e12) (cwV 1 hts (gVA wa_158 wa_159 wa_160 (hWCA _ wc_66) (hWCA _ wc_94) hWCA) rfl rfl rfl (by decide +kernel) ⟨Nat.le_of_ble_eq_true rfl, Nat.le_of_ble_eq_true rfl⟩) rfl hl.1 rfl (Nat.le_of_ble_eq_true rfl) dL_areVertices_329 ⟨Nat.le_of_ble_eq_true rfl, Nat.le_of_ble_eq_true rfl⟩ (fun H locs hP hS => ?_)
            refine lv_i2l (v := t13.toInt64) hx hb dL_areVertices_332 rfl ?_
            refine lv_aload_n hx hb dL_areVertices_333 rfl (lv_at hl 2 rfl) ?_
            refine lv_iload hx hb dL_areVertices_334 (lv_at hl 6 rfl) ?_
            refine lv_iconst (v := 1) hx hb dL_areVertices_336 (by decide) ?_
            refine lv_isub hx hb dL_areVertices_337 ?_
            obtain ⟨t15, e14, h⟩ := cal_el h
            refine g_VI (As := [.int (x5 - 1)]) (rest := [.long t13.toInt64]) hC hP hS z3.1 (cE_6 z3.2) (C := RX6) (T := TX6) (N := 8) rfl (m_X6_yDenominator l G F S D x0 (x5 - 1) t15 e14) (cwV 1 hts (gVA wa_161 wa_162 wa_163 (hWCA _ wc_66) (hWCA _ wc_95) hWCA) rfl rfl rfl (by decide +kernel) ⟨Nat.le_of_ble_eq_true rfl, Nat.le_of_ble_eq_true rfl⟩) rfl hl.1 rfl (Nat.le_of_ble_eq_true rfl) dL_areVertices_338 ⟨Nat.le_of_ble_eq_true rfl, Nat.le_of_ble_eq_true rfl⟩ (fun H locs hP hS => ?_)
            refine lv_i2l (v := t15.toInt64) hx hb dL_areVertices_341 rfl ?_
            refine lv_lmul hx hb dL_areVertices_342 ?_
            refine lv_aload_n hx hb dL_areVertices_343 rfl (lv_at hl 2 rfl) ?_
            refine lv_iload hx hb dL_areVertices_344 (lv_at hl 6 rfl) ?_
            refine lv_iconst (v := 1) hx hb dL_areVertices_346 (by decide) ?_
            refine lv_isub hx hb dL_areVertices_347 ?_
            obtain ⟨t17, e16, h⟩ := cal_el h
            refine g_VI (As := [.int (x5 - 1)]) (rest := [.long (t13.toInt64 * t15.toInt64)]) hC hP hS z3.1 (cE_6 z3.2) (C := RX6) (T := TX6) (N := 8) rfl (m_X6_yNumerator l G F S D x0 (x5 - 1) t17 e16) (cwV 1 hts (gVA wa_158 wa_159 wa_160 (hWCA _ wc_66) (hWCA _ wc_94) hWCA) rfl rfl rfl (by decide +kernel) ⟨Nat.le_of_ble_eq_true rfl, Nat.le_of_ble_eq_true rfl⟩) rfl hl.1 rfl (Nat.le_of_ble_eq_true rfl) dL_areVertices_348 ⟨Nat.le_of_ble_eq_true rfl, Nat.le_of_ble_eq_true rfl⟩ (fun H locs hP hS => ?_)
            refine lv_i2l (v := t17.toInt64) hx hb dL_areVertices_351 rfl ?_
            refine lv_aload_n hx hb dL_areVertices_352 rfl (lv_at hl 2 rfl) ?_
            refine lv_iload hx hb dL_areVertices_353 (lv_at hl 6 rfl) ?_
            obtain ⟨t19, e18, h⟩ := cal_el h
            refine g_VI (As := [.int x5]) (rest := [.long t17.toInt64, .long (t13.toInt64 * t15.toInt64)]) hC hP hS z3.1 (cE_6 z3.2) (C := RX6) (T := TX6) (N := 8) rfl (m_X6_yDenominator l G F S D x0 x5 t19 e18) (cwV 1 hts (gVA wa_161 wa_162 wa_163 (hWCA _ wc_66) (hWCA _ wc_95) hWCA) rfl rfl rfl (by decide +kernel) ⟨Nat.le_of_ble_eq_true rfl, Nat.le_of_ble_eq_true rfl⟩) rfl hl.1 rfl (Nat.le_of_ble_eq_true rfl) dL_areVertices_355 ⟨Nat.le_of_ble_eq_true rfl, Nat.le_of_ble_eq_true rfl⟩ (fun H locs hP hS => ?_)
            refine lv_i2l (v := t19.toInt64) hx hb dL_areVertices_358 rfl ?_
            refine lv_lmul hx hb dL_areVertices_359 ?_
            refine lv_lsub hx hb dL_areVertices_360 ?_
            refine lv_lstore (lv' := [(10, .long ((t13.toInt64 * t15.toInt64) - (t17.toInt64 * t19.toInt64))), (8, .long ((t5.toInt64 * t7.toInt64) - (t9.toInt64 * t11.toInt64))), (4, .int s0), (0, .ref x0), (1, .ref x1), (2, .ref x2), (3, .int x3), (5, .int x5)]) hx hb dL_areVertices_361 hl (by decide) rfl (fun ls hl => ?_)
            refine lv_lload hx hb dL_areVertices_363 (lv_at hl 1 rfl) ?_
            refine lv_lconst (v := 0) hx hb dL_areVertices_365 (by decide) ?_
            refine W.lcmp hx hb dL_areVertices_366 ?_
            refine lv_if_gt (tgt := 384) hx hb dL_areVertices_367 (by decide) (fun u20 => ?_) (fun u20 => ?_)
            · have h := ite_t u20 h
              refine lv_iconst (v := 1) hx hb dL_areVertices_384 (by decide) ?_
              refine lv_goto (tgt := 389) hx hb dL_areVertices_385 (by decide) ?_
              refine lv_istore (lv' := [(4, .int 1), (10, .long ((t13.toInt64 * t15.toInt64) - (t17.toInt64 * t19.toInt64))), (8, .long ((t5.toInt64 * t7.toInt64) - (t9.toInt64 * t11.toInt64))), (0, .ref x0), (1, .ref x1), (2, .ref x2), (3, .int x3), (5, .int x5)]) hx hb dL_areVertices_389 hl (by decide) rfl (fun ls hl => ?_)
              refine W.widen (k := 2) (n := 12) (Nat.le_of_ble_eq_true rfl) (Nat.le_of_ble_eq_true rfl) ?_
              exact b391 _ _ _ D x0 x1 x2 x3 1 x5 hP hS (lv_sub hl [3, 4, 5, 6, 0, 7] rfl) h
            · have h := ite_f u20 h
              refine lv_lload hx hb dL_areVertices_370 (lv_at hl 1 rfl) ?_
              refine lv_lconst (v := 0) hx hb dL_areVertices_372 (by decide) ?_
              refine W.lcmp hx hb dL_areVertices_373 ?_
              refine lv_if_ne (tgt := 388) hx hb dL_areVertices_374 (by decide) (fun u21 => ?_) (fun u21 => ?_)
              · have h := ite_f u21 h
                refine lv_iconst (v := 0) hx hb dL_areVertices_388 (by decide) ?_
                refine lv_istore (lv' := [(4, .int 0), (10, .long ((t13.toInt64 * t15.toInt64) - (t17.toInt64 * t19.toInt64))), (8, .long ((t5.toInt64 * t7.toInt64) - (t9.toInt64 * t11.toInt64))), (0, .ref x0), (1, .ref x1), (2, .ref x2), (3, .int x3), (5, .int x5)]) hx hb dL_areVertices_389 hl (by decide) rfl (fun ls hl => ?_)
                refine W.widen (k := 2) (n := 12) (Nat.le_of_ble_eq_true rfl) (Nat.le_of_ble_eq_true rfl) ?_
                exact b391 _ _ _ D x0 x1 x2 x3 0 x5 hP hS (lv_sub hl [3, 4, 5, 6, 0, 7] rfl) h
              · have h := ite_t u21 h
                refine lv_lload hx hb dL_areVertices_377 (lv_at hl 0 rfl) ?_
                refine lv_lconst (v := 0) hx hb dL_areVertices_379 (by decide) ?_
                refine W.lcmp hx hb dL_areVertices_380 ?_
                refine lv_if_le (tgt := 388) hx hb dL_areVertices_381 (by decide) (fun u22 => ?_) (fun u22 => ?_)
                · have h := ite_t u22 h
                  refine lv_iconst (v := 0) hx hb dL_areVertices_388 (by decide) ?_
                  refine lv_istore (lv' := [(4, .int 0), (10, .long ((t13.toInt64 * t15.toInt64) - (t17.toInt64 * t19.toInt64))), (8, .long ((t5.toInt64 * t7.toInt64) - (t9.toInt64 * t11.toInt64))), (0, .ref x0), (1, .ref x1), (2, .ref x2), (3, .int x3), (5, .int x5)]) hx hb dL_areVertices_389 hl (by decide) rfl (fun ls hl => ?_)
                  refine W.widen (k := 2) (n := 12) (Nat.le_of_ble_eq_true rfl) (Nat.le_of_ble_eq_true rfl) ?_
                  exact b391 _ _ _ D x0 x1 x2 x3 0 x5 hP hS (lv_sub hl [3, 4, 5, 6, 0, 7] rfl) h
                · have h := ite_f u22 h
                  refine lv_iconst (v := 1) hx hb dL_areVertices_384 (by decide) ?_
                  refine lv_goto (tgt := 389) hx hb dL_areVertices_385 (by decide) ?_
                  refine lv_istore (lv' := [(4, .int 1), (10, .long ((t13.toInt64 * t15.toInt64) - (t17.toInt64 * t19.toInt64))), (8, .long ((t5.toInt64 * t7.toInt64) - (t9.toInt64 * t11.toInt64))), (0, .ref x0), (1, .ref x1), (2, .ref x2), (3, .int x3), (5, .int x5)]) hx hb dL_areVertices_389 hl (by decide) rfl (fun ls hl => ?_)
                  refine W.widen (k := 2) (n := 12) (Nat.le_of_ble_eq_true rfl) (Nat.le_of_ble_eq_true rfl) ?_
                  exact b391 _ _ _ D x0 x1 x2 x3 1 x5 hP hS (lv_sub hl [3, 4, 5, 6, 0, 7] rfl) h
      have L68 : ∀ (n68 : Nat) (H : Heap) (locs : List Loc) (ls : Array Slot) (D : CD) (x0 : Nat) (x1 : Nat) (x2 : Nat) (x3 : Int32) (x5 : Int32) (x6 : Int32) (x7 : Int32) (x8 : Int32), va_P G.1 vwCl (cW G S D) H → va_S (cA G S sz) s.heap H locs → lv_has ls 12 [(0, .ref x0), (1, .ref x1), (2, .ref x2), (3, .int x3), (5, .int x5), (6, .int x6), (7, .int x7), (8, .int x8)] → f_L_areVertices_L68 F S ((f_L_areVertices_L45 F S n45)) n68 D x0 x1 x2 x3 x5 x6 x7 x8 = some (D2, r) → W p l e (headSpec wL_areVertices ({ frames := 11, cells := 2, slots := 12, locals := 430 })).room s m ([.ref a1, .ref a2, .ref a3] : List Value).toArray below meth c H locs 2 12 (lQI below G S D2 sz ([.ref a1, .ref a2, .ref a3] : List Value).toArray s r 2 12) (F0 m 68 ls []) := by
        intro n68
        induction n68 with
        | zero =>
          intro H locs ls D x0 x1 x2 x3 x5 x6 x7 x8 hP hS hl h
          rw [f_L_areVertices_L68] at h; cases h
        | succ n68 ih68 =>
          have b191 : ∀ (H : Heap) (locs : List Loc) (ls : Array Slot) (D : CD) (x0 : Nat) (x1 : Nat) (x2 : Nat) (x3 : Int32) (x5 : Int32) (x6 : Int32) (x8 : Int32) (s0 : Int32) (s1 : Int32), va_P G.1 vwCl (cW G S D) H → va_S (cA G S sz) s.heap H locs → lv_has ls 12 [(0, .ref x0), (1, .ref x1), (2, .ref x2), (3, .int x3), (5, .int x5), (6, .int x6), (8, .int x8)] → f_L_areVertices_b191 F S ((f_L_areVertices_L45 F S n45)) ((f_L_areVertices_L68 F S ((f_L_areVertices_L45 F S n45)) n68)) D x0 x1 x2 x3 x5 x6 x8 s0 s1 = some (D2, r) → W p l e (headSpec wL_areVertices ({ frames := 11, cells := 2, slots := 12, locals := 430 })).room s m ([.ref a1, .ref a2, .ref a3] : List Value).toArray below meth c H locs 2 12 (lQI below G S D2 sz ([.ref a1, .ref a2, .ref a3] : List Value).toArray s r 2 12) (F0 m 191 ls [.int s0, .int s1]) := by
            intro H locs ls D x0 x1 x2 x3 x5 x6 x8 s0 s1 hP hS hl h
            unfold f_L_areVertices_b191 at h
            refine lv_iadd hx hb dL_areVertices_191 ?_
            refine lv_istore (lv' := [(7, .int (s1 + s0)), (0, .ref x0), (1, .ref x1), (2, .ref x2), (3, .int x3), (5, .int x5), (6, .int x6), (8, .int x8)]) hx hb dL_areVertices_192 hl (by decide) rfl (fun ls hl => ?_)
            refine lv_iinc (v := x8 + 1) (lv' := [(8, .int (x8 + 1)), (7, .int (s1 + s0)), (0, .ref x0), (1, .ref x1), (2, .ref x2), (3, .int x3), (5, .int x5), (6, .int x6)]) hx hb dL_areVertices_194 hl (k := 7) rfl rfl (by decide) rfl (fun ls hl => ?_)
            refine lv_goto (tgt := 68) hx hb dL_areVertices_197 (by decide) ?_
            refine W.widen (k := 2) (n := 12) (Nat.le_of_ble_eq_true rfl) (Nat.le_of_ble_eq_true rfl) ?_
            exact ih68 _ _ _ D x0 x1 x2 x3 x5 x6 (s1 + s0) (x8 + 1) hP hS (lv_sub hl [2, 3, 4, 5, 6, 7, 1, 0] rfl) h
          have b152 : ∀ (H : Heap) (locs : List Loc) (ls : Array Slot) (D : CD) (x0 : Nat) (x1 : Nat) (x2 : Nat) (x3 : Int32) (x5 : Int32) (x6 : Int32) (x8 : Int32) (s0 : Int32), va_P G.1 vwCl (cW G S D) H → va_S (cA G S sz) s.heap H locs → lv_has ls 12 [(0, .ref x0), (1, .ref x1), (2, .ref x2), (3, .int x3), (5, .int x5), (6, .int x6), (8, .int x8)] → f_L_areVertices_b152 F S ((f_L_areVertices_L45 F S n45)) ((f_L_areVertices_L68 F S ((f_L_areVertices_L45 F S n45)) n68)) D x0 x1 x2 x3 x5 x6 x8 s0 = some (D2, r) → W p l e (headSpec wL_areVertices ({ frames := 11, cells := 2, slots := 12, locals := 430 })).room s m ([.ref a1, .ref a2, .ref a3] : List Value).toArray below meth c H locs 2 12 (lQI below G S D2 sz ([.ref a1, .ref a2, .ref a3] : List Value).toArray s r 2 12) (F0 m 152 ls [.int s0]) := by
            intro H locs ls D x0 x1 x2 x3 x5 x6 x8 s0 hP hS hl h
            unfold f_L_areVertices_b152 at h
            refine lv_aload_n hx hb dL_areVertices_152 rfl (lv_at hl 1 rfl) ?_
            refine lv_iconst (v := 4) hx hb dL_areVertices_153 (by decide) ?_
            refine lv_iload hx hb dL_areVertices_154 (lv_at hl 6 rfl) ?_
            refine lv_imul hx hb dL_areVertices_156 ?_
            refine lv_iconst (v := 2) hx hb dL_areVertices_157 (by decide) ?_
            refine lv_iadd hx hb dL_areVertices_158 ?_
            obtain ⟨z1, h⟩ := ckK_el h
            obtain ⟨y3, t2, e4, h⟩ := rdI_el h
            refine g_ild hC hP z1.1 z1.2 y3 e4 dL_areVertices_159 ?_
            refine lv_aload_n hx hb dL_areVertices_160 rfl (lv_at hl 0 rfl) ?_
            refine lv_iload hx hb dL_areVertices_161 (lv_at hl 4 rfl) ?_
            obtain ⟨z5, h⟩ := ckK_el h
            obtain ⟨t7, e6, h⟩ := cal_el h
            refine g_VI (As := [.int x5]) (rest := [.int t2, .int s0]) hC hP hS z5.1 (cE_6 z5.2) (C := RX6) (T := TX6) (N := 8) rfl (m_X6_xNumerator l G F S D x0 x5 t7 e6) (cwV 1 hts (gVA wa_152 wa_153 wa_154 (hWCA _ wc_66) (hWCA _ wc_85) hWCA) rfl rfl rfl (by decide +kernel) ⟨Nat.le_of_ble_eq_true rfl, Nat.le_of_ble_eq_true rfl⟩) rfl hl.1 rfl (Nat.le_of_ble_eq_true rfl) dL_areVertices_163 ⟨Nat.le_of_ble_eq_true rfl, Nat.le_of_ble_eq_true rfl⟩ (fun H locs hP hS => ?_)
            refine lv_icmp_ne (tgt := 190) hx hb dL_areVertices_166 (by decide) (fun u8 => ?_) (fun u8 => ?_)
            · have h := ite_f u8 h
              refine lv_iconst (v := 0) hx hb dL_areVertices_190 (by decide) ?_
              refine W.widen (k := 2) (n := 12) (Nat.le_of_ble_eq_true rfl) (Nat.le_of_ble_eq_true rfl) ?_
              exact b191 _ _ _ D x0 x1 x2 x3 x5 x6 x8 0 s0 hP hS (lv_sub hl [0, 1, 2, 3, 4, 5, 6] rfl) h
            · have h := ite_t u8 h
              refine lv_aload_n hx hb dL_areVertices_169 rfl (lv_at hl 1 rfl) ?_
              refine lv_iconst (v := 4) hx hb dL_areVertices_170 (by decide) ?_
              refine lv_iload hx hb dL_areVertices_171 (lv_at hl 6 rfl) ?_
              refine lv_imul hx hb dL_areVertices_173 ?_
              refine lv_iconst (v := 3) hx hb dL_areVertices_174 (by decide) ?_
              refine lv_iadd hx hb dL_areVertices_175 ?_
              obtain ⟨y10, t9, e11, h⟩ := rdI_el h
              refine g_ild hC hP z1.1 z1.2 y10 e11 dL_areVertices_176 ?_
              refine lv_aload_n hx hb dL_areVertices_177 rfl (lv_at hl 0 rfl) ?_
              refine lv_iload hx hb dL_areVertices_178 (lv_at hl 4 rfl) ?_
              obtain ⟨t13, e12, h⟩ := cal_el h
              refine g_VI (As := [.int x5]) (rest := [.int t9, .int s0]) hC hP hS z5.1 (cE_6 z5.2) (C := RX6) (T := TX6) (N := 8) rfl (m_X6_yNumerator l G F S D x0 x5 t13 e12) (cwV 1 hts (gVA wa_158 wa_159 wa_160 (hWCA _ wc_66) (hWCA _ wc_94) hWCA) rfl rfl rfl (by decide +kernel) ⟨Nat.le_of_ble_eq_true rfl, Nat.le_of_ble_eq_true rfl⟩) rfl hl.1 rfl (Nat.le_of_ble_eq_true rfl) dL_areVertices_180 ⟨Nat.le_of_ble_eq_true rfl, Nat.le_of_ble_eq_true rfl⟩ (fun H locs hP hS => ?_)
              refine lv_icmp_ne (tgt := 190) hx hb dL_areVertices_183 (by decide) (fun u14 => ?_) (fun u14 => ?_)
              · have h := ite_f u14 h
                refine lv_iconst (v := 0) hx hb dL_areVertices_190 (by decide) ?_
                refine W.widen (k := 2) (n := 12) (Nat.le_of_ble_eq_true rfl) (Nat.le_of_ble_eq_true rfl) ?_
                exact b191 _ _ _ D x0 x1 x2 x3 x5 x6 x8 0 s0 hP hS (lv_sub hl [0, 1, 2, 3, 4, 5, 6] rfl) h
              · have h := ite_t u14 h
                refine lv_iconst (v := 1) hx hb dL_areVertices_186 (by decide) ?_
                refine lv_goto (tgt := 191) hx hb dL_areVertices_187 (by decide) ?_
                refine W.widen (k := 2) (n := 12) (Nat.le_of_ble_eq_true rfl) (Nat.le_of_ble_eq_true rfl) ?_
                exact b191 _ _ _ D x0 x1 x2 x3 x5 x6 x8 1 s0 hP hS (lv_sub hl [0, 1, 2, 3, 4, 5, 6] rfl) h
          have b95 : ∀ (H : Heap) (locs : List Loc) (ls : Array Slot) (D : CD) (x0 : Nat) (x1 : Nat) (x2 : Nat) (x3 : Int32) (x5 : Int32) (x7 : Int32) (x8 : Int32) (s0 : Int32) (s1 : Int32), va_P G.1 vwCl (cW G S D) H → va_S (cA G S sz) s.heap H locs → lv_has ls 12 [(0, .ref x0), (1, .ref x1), (2, .ref x2), (3, .int x3), (5, .int x5), (7, .int x7), (8, .int x8)] → f_L_areVertices_b95 F S ((f_L_areVertices_L45 F S n45)) ((f_L_areVertices_L68 F S ((f_L_areVertices_L45 F S n45)) n68)) D x0 x1 x2 x3 x5 x7 x8 s0 s1 = some (D2, r) → W p l e (headSpec wL_areVertices ({ frames := 11, cells := 2, slots := 12, locals := 430 })).room s m ([.ref a1, .ref a2, .ref a3] : List Value).toArray below meth c H locs 2 12 (lQI below G S D2 sz ([.ref a1, .ref a2, .ref a3] : List Value).toArray s r 2 12) (F0 m 95 ls [.int s0, .int s1]) := by
            intro H locs ls D x0 x1 x2 x3 x5 x7 x8 s0 s1 hP hS hl h
            unfold f_L_areVertices_b95 at h
            refine lv_iadd hx hb dL_areVertices_95 ?_
            refine lv_istore (lv' := [(6, .int (s1 + s0)), (0, .ref x0), (1, .ref x1), (2, .ref x2), (3, .int x3), (5, .int x5), (7, .int x7), (8, .int x8)]) hx hb dL_areVertices_96 hl (by decide) rfl (fun ls hl => ?_)
            refine lv_iload hx hb dL_areVertices_98 (lv_at hl 6 rfl) ?_
            refine lv_aload_n hx hb dL_areVertices_100 rfl (lv_at hl 1 rfl) ?_
            refine lv_iload hx hb dL_areVertices_101 (lv_at hl 5 rfl) ?_
            obtain ⟨z1, h⟩ := ckK_el h
            obtain ⟨t3, e2, h⟩ := cal_el h
            refine g_VI (As := [.int x5]) (rest := [.int x7]) hC hP hS z1.1 (cE_6 z1.2) (C := RX6) (T := TX6) (N := 8) rfl (m_X6_xDenominator l G F S D x0 x5 t3 e2) (cwV 1 hts (gVA wa_155 wa_156 wa_157 (hWCA _ wc_66) (hWCA _ wc_93) hWCA) rfl rfl rfl (by decide +kernel) ⟨Nat.le_of_ble_eq_true rfl, Nat.le_of_ble_eq_true rfl⟩) rfl hl.1 rfl (Nat.le_of_ble_eq_true rfl) dL_areVertices_103 ⟨Nat.le_of_ble_eq_true rfl, Nat.le_of_ble_eq_true rfl⟩ (fun H locs hP hS => ?_)
            refine lv_iconst (v := 1) hx hb dL_areVertices_106 (by decide) ?_
            refine lv_icmp_ne (tgt := 190) hx hb dL_areVertices_107 (by decide) (fun u4 => ?_) (fun u4 => ?_)
            · have h := ite_f u4 h
              refine lv_iconst (v := 0) hx hb dL_areVertices_190 (by decide) ?_
              refine W.widen (k := 2) (n := 12) (Nat.le_of_ble_eq_true rfl) (Nat.le_of_ble_eq_true rfl) ?_
              exact b191 _ _ _ D x0 x1 x2 x3 x5 (s1 + s0) x8 0 x7 hP hS (lv_sub hl [1, 2, 3, 4, 5, 0, 7] rfl) h
            · have h := ite_t u4 h
              refine lv_aload_n hx hb dL_areVertices_110 rfl (lv_at hl 1 rfl) ?_
              refine lv_iload hx hb dL_areVertices_111 (lv_at hl 5 rfl) ?_
              obtain ⟨t6, e5, h⟩ := cal_el h
              refine g_VI (As := [.int x5]) (rest := [.int x7]) hC hP hS z1.1 (cE_6 z1.2) (C := RX6) (T := TX6) (N := 8) rfl (m_X6_yDenominator l G F S D x0 x5 t6 e5) (cwV 1 hts (gVA wa_161 wa_162 wa_163 (hWCA _ wc_66) (hWCA _ wc_95) hWCA) rfl rfl rfl (by decide +kernel) ⟨Nat.le_of_ble_eq_true rfl, Nat.le_of_ble_eq_true rfl⟩) rfl hl.1 rfl (Nat.le_of_ble_eq_true rfl) dL_areVertices_113 ⟨Nat.le_of_ble_eq_true rfl, Nat.le_of_ble_eq_true rfl⟩ (fun H locs hP hS => ?_)
              refine lv_iconst (v := 1) hx hb dL_areVertices_116 (by decide) ?_
              refine lv_icmp_ne (tgt := 190) hx hb dL_areVertices_117 (by decide) (fun u7 => ?_) (fun u7 => ?_)
              · have h := ite_f u7 h
                refine lv_iconst (v := 0) hx hb dL_areVertices_190 (by decide) ?_
                refine W.widen (k := 2) (n := 12) (Nat.le_of_ble_eq_true rfl) (Nat.le_of_ble_eq_true rfl) ?_
                exact b191 _ _ _ D x0 x1 x2 x3 x5 (s1 + s0) x8 0 x7 hP hS (lv_sub hl [1, 2, 3, 4, 5, 0, 7] rfl) h
              · have h := ite_t u7 h
                refine lv_aload_n hx hb dL_areVertices_120 rfl (lv_at hl 2 rfl) ?_
                refine lv_iconst (v := 4) hx hb dL_areVertices_121 (by decide) ?_
                refine lv_iload hx hb dL_areVertices_122 (lv_at hl 7 rfl) ?_
                refine lv_imul hx hb dL_areVertices_124 ?_
                obtain ⟨z8, h⟩ := ckK_el h
                obtain ⟨y10, t9, e11, h⟩ := rdI_el h
                refine g_ild hC hP z8.1 z8.2 y10 e11 dL_areVertices_125 ?_
                refine lv_aload_n hx hb dL_areVertices_126 rfl (lv_at hl 1 rfl) ?_
                refine lv_iload hx hb dL_areVertices_127 (lv_at hl 5 rfl) ?_
                obtain ⟨t13, e12, h⟩ := cal_el h
                refine g_VI (As := [.int x5]) (rest := [.int t9, .int x7]) hC hP hS z1.1 (cE_6 z1.2) (C := RX6) (T := TX6) (N := 8) rfl (m_X6_xNumerator l G F S D x0 x5 t13 e12) (cwV 1 hts (gVA wa_152 wa_153 wa_154 (hWCA _ wc_66) (hWCA _ wc_85) hWCA) rfl rfl rfl (by decide +kernel) ⟨Nat.le_of_ble_eq_true rfl, Nat.le_of_ble_eq_true rfl⟩) rfl hl.1 rfl (Nat.le_of_ble_eq_true rfl) dL_areVertices_129 ⟨Nat.le_of_ble_eq_true rfl, Nat.le_of_ble_eq_true rfl⟩ (fun H locs hP hS => ?_)
                refine lv_icmp_ne (tgt := 152) hx hb dL_areVertices_132 (by decide) (fun u14 => ?_) (fun u14 => ?_)
                · have h := ite_f u14 h
                  refine W.widen (k := 2) (n := 12) (Nat.le_of_ble_eq_true rfl) (Nat.le_of_ble_eq_true rfl) ?_
                  exact b152 _ _ _ D x0 x1 x2 x3 x5 (s1 + s0) x8 x7 hP hS (lv_sub hl [1, 2, 3, 4, 5, 0, 7] rfl) h
                · have h := ite_t u14 h
                  refine lv_aload_n hx hb dL_areVertices_135 rfl (lv_at hl 2 rfl) ?_
                  refine lv_iconst (v := 4) hx hb dL_areVertices_136 (by decide) ?_
                  refine lv_iload hx hb dL_areVertices_137 (lv_at hl 7 rfl) ?_
                  refine lv_imul hx hb dL_areVertices_139 ?_
                  refine lv_iconst (v := 1) hx hb dL_areVertices_140 (by decide) ?_
                  refine lv_iadd hx hb dL_areVertices_141 ?_
                  obtain ⟨y16, t15, e17, h⟩ := rdI_el h
                  refine g_ild hC hP z8.1 z8.2 y16 e17 dL_areVertices_142 ?_
                  refine lv_aload_n hx hb dL_areVertices_143 rfl (lv_at hl 1 rfl) ?_
                  refine lv_iload hx hb dL_areVertices_144 (lv_at hl 5 rfl) ?_
                  obtain ⟨t19, e18, h⟩ := cal_el h
                  refine g_VI (As := [.int x5]) (rest := [.int t15, .int x7]) hC hP hS z1.1 (cE_6 z1.2) (C := RX6) (T := TX6) (N := 8) rfl (m_X6_yNumerator l G F S D x0 x5 t19 e18) (cwV 1 hts (gVA wa_158 wa_159 wa_160 (hWCA _ wc_66) (hWCA _ wc_94) hWCA) rfl rfl rfl (by decide +kernel) ⟨Nat.le_of_ble_eq_true rfl, Nat.le_of_ble_eq_true rfl⟩) rfl hl.1 rfl (Nat.le_of_ble_eq_true rfl) dL_areVertices_146 ⟨Nat.le_of_ble_eq_true rfl, Nat.le_of_ble_eq_true rfl⟩ (fun H locs hP hS => ?_)
                  refine lv_icmp_eq (tgt := 186) hx hb dL_areVertices_149 (by decide) (fun u20 => ?_) (fun u20 => ?_)
                  · have h := ite_t u20 h
                    refine lv_iconst (v := 1) hx hb dL_areVertices_186 (by decide) ?_
                    refine lv_goto (tgt := 191) hx hb dL_areVertices_187 (by decide) ?_
                    refine W.widen (k := 2) (n := 12) (Nat.le_of_ble_eq_true rfl) (Nat.le_of_ble_eq_true rfl) ?_
                    exact b191 _ _ _ D x0 x1 x2 x3 x5 (s1 + s0) x8 1 x7 hP hS (lv_sub hl [1, 2, 3, 4, 5, 0, 7] rfl) h
                  · have h := ite_f u20 h
                    refine W.widen (k := 2) (n := 12) (Nat.le_of_ble_eq_true rfl) (Nat.le_of_ble_eq_true rfl) ?_
                    exact b152 _ _ _ D x0 x1 x2 x3 x5 (s1 + s0) x8 x7 hP hS (lv_sub hl [1, 2, 3, 4, 5, 0, 7] rfl) h
          intro H locs ls D x0 x1 x2 x3 x5 x6 x7 x8 hP hS hl h
          rw [f_L_areVertices_L68] at h
          refine lv_iload hx hb dL_areVertices_68 (lv_at hl 7 rfl) ?_
          refine lv_aload_n hx hb dL_areVertices_70 rfl (lv_at hl 2 rfl) ?_
          refine lv_iconst (v := 0) hx hb dL_areVertices_71 (by decide) ?_
          obtain ⟨z1, h⟩ := ckK_el h
          obtain ⟨y3, t2, e4, h⟩ := rdI_el h
          refine g_ild hC hP z1.1 z1.2 y3 e4 dL_areVertices_72 ?_
          refine lv_icmp_ge (tgt := 200) hx hb dL_areVertices_73 (by decide) (fun u5 => ?_) (fun u5 => ?_)
          · have h := ite_t u5 h
            refine lv_iload_n hx hb dL_areVertices_200 rfl (lv_at hl 3 rfl) ?_
            refine lv_aload_n hx hb dL_areVertices_201 rfl (lv_at hl 0 rfl) ?_
            refine lv_iload hx hb dL_areVertices_202 (lv_at hl 4 rfl) ?_
            obtain ⟨z6, h⟩ := ckK_el h
            obtain ⟨t8, e7, h⟩ := cal_el h
            refine g_VI (As := [.int x5]) (rest := [.int x3]) hC hP hS z6.1 (cE_6 z6.2) (C := RX6) (T := TX6) (N := 8) rfl (m_X6_degree l G F S D x0 x5 t8 e7) (cwV 1 hts (gVA wa_164 wa_165 wa_166 (hWCA _ wc_66) (hWCA _ wc_98) hWCA) rfl rfl rfl (by decide +kernel) ⟨Nat.le_of_ble_eq_true rfl, Nat.le_of_ble_eq_true rfl⟩) rfl hl.1 rfl (Nat.le_of_ble_eq_true rfl) dL_areVertices_204 ⟨Nat.le_of_ble_eq_true rfl, Nat.le_of_ble_eq_true rfl⟩ (fun H locs hP hS => ?_)
            refine lv_iadd hx hb dL_areVertices_207 ?_
            refine lv_istore_n (lv' := [(3, .int (x3 + t8)), (0, .ref x0), (1, .ref x1), (2, .ref x2), (5, .int x5), (6, .int x6), (7, .int x7), (8, .int x8)]) hx hb dL_areVertices_208 rfl hl (by decide) rfl (fun ls hl => ?_)
            refine lv_aload_n hx hb dL_areVertices_209 rfl (lv_at hl 1 rfl) ?_
            refine lv_iload hx hb dL_areVertices_210 (lv_at hl 4 rfl) ?_
            obtain ⟨t10, e9, h⟩ := cal_el h
            refine g_VI (As := [.int x5]) (rest := []) hC hP hS z6.1 (cE_6 z6.2) (C := RX6) (T := TX6) (N := 8) rfl (m_X6_xNumerator l G F S D x0 x5 t10 e9) (cwV 1 hts (gVA wa_152 wa_153 wa_154 (hWCA _ wc_66) (hWCA _ wc_85) hWCA) rfl rfl rfl (by decide +kernel) ⟨Nat.le_of_ble_eq_true rfl, Nat.le_of_ble_eq_true rfl⟩) rfl hl.1 rfl (Nat.le_of_ble_eq_true rfl) dL_areVertices_212 ⟨Nat.le_of_ble_eq_true rfl, Nat.le_of_ble_eq_true rfl⟩ (fun H locs hP hS => ?_)
            refine lv_aload_n hx hb dL_areVertices_215 rfl (lv_at hl 1 rfl) ?_
            refine lv_iload hx hb dL_areVertices_216 (lv_at hl 4 rfl) ?_
            obtain ⟨t12, e11, h⟩ := cal_el h
            refine g_VI (As := [.int x5]) (rest := [.int t10]) hC hP hS z6.1 (cE_6 z6.2) (C := RX6) (T := TX6) (N := 8) rfl (m_X6_xDenominator l G F S D x0 x5 t12 e11) (cwV 1 hts (gVA wa_155 wa_156 wa_157 (hWCA _ wc_66) (hWCA _ wc_93) hWCA) rfl rfl rfl (by decide +kernel) ⟨Nat.le_of_ble_eq_true rfl, Nat.le_of_ble_eq_true rfl⟩) rfl hl.1 rfl (Nat.le_of_ble_eq_true rfl) dL_areVertices_218 ⟨Nat.le_of_ble_eq_true rfl, Nat.le_of_ble_eq_true rfl⟩ (fun H locs hP hS => ?_)
            obtain ⟨t14, e13, h⟩ := cal_el h
            refine g_SI (As := [.int t10, .int t12]) (rest := []) hC hP hS (m_L_isLowest l G F S D t10 t12 t14 e13) (va_cwS 2 hts (gSA wa_241 wa_242 wa_233 wa_229 (fun w h => h)) rfl rfl rfl (by decide +kernel) ⟨Nat.le_of_ble_eq_true rfl, Nat.le_of_ble_eq_true rfl⟩) rfl hl.1 rfl (Nat.le_of_ble_eq_true rfl) dL_areVertices_221 ⟨Nat.le_of_ble_eq_true rfl, Nat.le_of_ble_eq_true rfl⟩ (fun H locs hP hS => ?_)
            refine lv_if_eq (tgt := 276) hx hb dL_areVertices_224 (by decide) (fun u15 => ?_) (fun u15 => ?_)
            · have h := ite_t u15 h
              refine lv_iconst (v := 0) hx hb dL_areVertices_276 (by decide) ?_
              refine W.widen (k := 2) (n := 12) (Nat.le_of_ble_eq_true rfl) (Nat.le_of_ble_eq_true rfl) ?_
              exact b277 _ _ _ D x0 x1 x2 (x3 + t8) x5 0 hP hS (lv_sub hl [1, 2, 3, 0, 4] rfl) h
            · have h := ite_f u15 h
              refine lv_aload_n hx hb dL_areVertices_227 rfl (lv_at hl 1 rfl) ?_
              refine lv_iload hx hb dL_areVertices_228 (lv_at hl 4 rfl) ?_
              obtain ⟨t17, e16, h⟩ := cal_el h
              refine g_VI (As := [.int x5]) (rest := []) hC hP hS z6.1 (cE_6 z6.2) (C := RX6) (T := TX6) (N := 8) rfl (m_X6_yNumerator l G F S D x0 x5 t17 e16) (cwV 1 hts (gVA wa_158 wa_159 wa_160 (hWCA _ wc_66) (hWCA _ wc_94) hWCA) rfl rfl rfl (by decide +kernel) ⟨Nat.le_of_ble_eq_true rfl, Nat.le_of_ble_eq_true rfl⟩) rfl hl.1 rfl (Nat.le_of_ble_eq_true rfl) dL_areVertices_230 ⟨Nat.le_of_ble_eq_true rfl, Nat.le_of_ble_eq_true rfl⟩ (fun H locs hP hS => ?_)
              refine lv_aload_n hx hb dL_areVertices_233 rfl (lv_at hl 1 rfl) ?_
              refine lv_iload hx hb dL_areVertices_234 (lv_at hl 4 rfl) ?_
              obtain ⟨t19, e18, h⟩ := cal_el h
              refine g_VI (As := [.int x5]) (rest := [.int t17]) hC hP hS z6.1 (cE_6 z6.2) (C := RX6) (T := TX6) (N := 8) rfl (m_X6_yDenominator l G F S D x0 x5 t19 e18) (cwV 1 hts (gVA wa_161 wa_162 wa_163 (hWCA _ wc_66) (hWCA _ wc_95) hWCA) rfl rfl rfl (by decide +kernel) ⟨Nat.le_of_ble_eq_true rfl, Nat.le_of_ble_eq_true rfl⟩) rfl hl.1 rfl (Nat.le_of_ble_eq_true rfl) dL_areVertices_236 ⟨Nat.le_of_ble_eq_true rfl, Nat.le_of_ble_eq_true rfl⟩ (fun H locs hP hS => ?_)
              obtain ⟨t21, e20, h⟩ := cal_el h
              refine g_SI (As := [.int t17, .int t19]) (rest := []) hC hP hS (m_L_isLowest l G F S D t17 t19 t21 e20) (va_cwS 2 hts (gSA wa_241 wa_242 wa_233 wa_229 (fun w h => h)) rfl rfl rfl (by decide +kernel) ⟨Nat.le_of_ble_eq_true rfl, Nat.le_of_ble_eq_true rfl⟩) rfl hl.1 rfl (Nat.le_of_ble_eq_true rfl) dL_areVertices_239 ⟨Nat.le_of_ble_eq_true rfl, Nat.le_of_ble_eq_true rfl⟩ (fun H locs hP hS => ?_)
              refine lv_if_eq (tgt := 276) hx hb dL_areVertices_242 (by decide) (fun u22 => ?_) (fun u22 => ?_)
              · have h := ite_t u22 h
                refine lv_iconst (v := 0) hx hb dL_areVertices_276 (by decide) ?_
                refine W.widen (k := 2) (n := 12) (Nat.le_of_ble_eq_true rfl) (Nat.le_of_ble_eq_true rfl) ?_
                exact b277 _ _ _ D x0 x1 x2 (x3 + t8) x5 0 hP hS (lv_sub hl [1, 2, 3, 0, 4] rfl) h
              · have h := ite_f u22 h
                refine lv_aload_n hx hb dL_areVertices_245 rfl (lv_at hl 1 rfl) ?_
                refine lv_iload hx hb dL_areVertices_246 (lv_at hl 4 rfl) ?_
                obtain ⟨t24, e23, h⟩ := cal_el h
                refine g_VI (As := [.int x5]) (rest := []) hC hP hS z6.1 (cE_6 z6.2) (C := RX6) (T := TX6) (N := 8) rfl (m_X6_degree l G F S D x0 x5 t24 e23) (cwV 1 hts (gVA wa_164 wa_165 wa_166 (hWCA _ wc_66) (hWCA _ wc_98) hWCA) rfl rfl rfl (by decide +kernel) ⟨Nat.le_of_ble_eq_true rfl, Nat.le_of_ble_eq_true rfl⟩) rfl hl.1 rfl (Nat.le_of_ble_eq_true rfl) dL_areVertices_248 ⟨Nat.le_of_ble_eq_true rfl, Nat.le_of_ble_eq_true rfl⟩ (fun H locs hP hS => ?_)
                refine lv_iconst (v := 2) hx hb dL_areVertices_251 (by decide) ?_
                refine lv_iload hx hb dL_areVertices_252 (lv_at hl 5 rfl) ?_
                refine lv_imul hx hb dL_areVertices_254 ?_
                refine lv_iload hx hb dL_areVertices_255 (lv_at hl 6 rfl) ?_
                refine lv_isub hx hb dL_areVertices_257 ?_
                refine lv_icmp_ne (tgt := 276) hx hb dL_areVertices_258 (by decide) (fun u25 => ?_) (fun u25 => ?_)
                · have h := ite_f u25 h
                  refine lv_iconst (v := 0) hx hb dL_areVertices_276 (by decide) ?_
                  refine W.widen (k := 2) (n := 12) (Nat.le_of_ble_eq_true rfl) (Nat.le_of_ble_eq_true rfl) ?_
                  exact b277 _ _ _ D x0 x1 x2 (x3 + t8) x5 0 hP hS (lv_sub hl [1, 2, 3, 0, 4] rfl) h
                · have h := ite_t u25 h
                  refine lv_iload hx hb dL_areVertices_261 (lv_at hl 6 rfl) ?_
                  refine lv_if_gt (tgt := 272) hx hb dL_areVertices_263 (by decide) (fun u26 => ?_) (fun u26 => ?_)
                  · have h := ite_t u26 h
                    refine lv_iconst (v := 1) hx hb dL_areVertices_272 (by decide) ?_
                    refine lv_goto (tgt := 277) hx hb dL_areVertices_273 (by decide) ?_
                    refine W.widen (k := 2) (n := 12) (Nat.le_of_ble_eq_true rfl) (Nat.le_of_ble_eq_true rfl) ?_
                    exact b277 _ _ _ D x0 x1 x2 (x3 + t8) x5 1 hP hS (lv_sub hl [1, 2, 3, 0, 4] rfl) h
                  · have h := ite_f u26 h
                    refine lv_iload hx hb dL_areVertices_266 (lv_at hl 5 rfl) ?_
                    refine lv_iconst (v := 1) hx hb dL_areVertices_268 (by decide) ?_
                    refine lv_icmp_le (tgt := 276) hx hb dL_areVertices_269 (by decide) (fun u27 => ?_) (fun u27 => ?_)
                    · have h := ite_t u27 h
                      refine lv_iconst (v := 0) hx hb dL_areVertices_276 (by decide) ?_
                      refine W.widen (k := 2) (n := 12) (Nat.le_of_ble_eq_true rfl) (Nat.le_of_ble_eq_true rfl) ?_
                      exact b277 _ _ _ D x0 x1 x2 (x3 + t8) x5 0 hP hS (lv_sub hl [1, 2, 3, 0, 4] rfl) h
                    · have h := ite_f u27 h
                      refine lv_iconst (v := 1) hx hb dL_areVertices_272 (by decide) ?_
                      refine lv_goto (tgt := 277) hx hb dL_areVertices_273 (by decide) ?_
                      refine W.widen (k := 2) (n := 12) (Nat.le_of_ble_eq_true rfl) (Nat.le_of_ble_eq_true rfl) ?_
                      exact b277 _ _ _ D x0 x1 x2 (x3 + t8) x5 1 hP hS (lv_sub hl [1, 2, 3, 0, 4] rfl) h
          · have h := ite_f u5 h
            refine lv_iload hx hb dL_areVertices_76 (lv_at hl 5 rfl) ?_
            refine lv_aload_n hx hb dL_areVertices_78 rfl (lv_at hl 0 rfl) ?_
            refine lv_aload_n hx hb dL_areVertices_79 rfl (lv_at hl 1 rfl) ?_
            refine lv_iload hx hb dL_areVertices_80 (lv_at hl 7 rfl) ?_
            refine lv_iload hx hb dL_areVertices_82 (lv_at hl 4 rfl) ?_
            obtain ⟨t29, e28, h⟩ := cal_el h
            refine g_SI (As := [.ref x0, .ref x1, .int x8, .int x5]) (rest := [.int x6]) hC hP hS (m_L_isOn l G F S D x0 x1 x8 x5 t29 e28) (va_cwS 4 hts (gSA wa_239 wa_240 wa_233 wa_230 (fun w h => h)) rfl rfl rfl (by decide +kernel) ⟨Nat.le_of_ble_eq_true rfl, Nat.le_of_ble_eq_true rfl⟩) rfl hl.1 rfl (Nat.le_of_ble_eq_true rfl) dL_areVertices_84 ⟨Nat.le_of_ble_eq_true rfl, Nat.le_of_ble_eq_true rfl⟩ (fun H locs hP hS => ?_)
            refine lv_if_eq (tgt := 94) hx hb dL_areVertices_87 (by decide) (fun u30 => ?_) (fun u30 => ?_)
            · have h := ite_t u30 h
              refine lv_iconst (v := 0) hx hb dL_areVertices_94 (by decide) ?_
              refine W.widen (k := 2) (n := 12) (Nat.le_of_ble_eq_true rfl) (Nat.le_of_ble_eq_true rfl) ?_
              exact b95 _ _ _ D x0 x1 x2 x3 x5 x7 x8 0 x6 hP hS (lv_sub hl [0, 1, 2, 3, 4, 6, 7] rfl) h
            · have h := ite_f u30 h
              refine lv_iconst (v := 1) hx hb dL_areVertices_90 (by decide) ?_
              refine lv_goto (tgt := 95) hx hb dL_areVertices_91 (by decide) ?_
              refine W.widen (k := 2) (n := 12) (Nat.le_of_ble_eq_true rfl) (Nat.le_of_ble_eq_true rfl) ?_
              exact b95 _ _ _ D x0 x1 x2 x3 x5 x7 x8 1 x6 hP hS (lv_sub hl [0, 1, 2, 3, 4, 6, 7] rfl) h
      intro H locs ls D x0 x1 x2 x3 x4 x5 hP hS hl h
      rw [f_L_areVertices_L45] at h
      refine lv_iload hx hb dL_areVertices_45 (lv_at hl 5 rfl) ?_
      refine lv_aload_n hx hb dL_areVertices_47 rfl (lv_at hl 0 rfl) ?_
      obtain ⟨z1, h⟩ := ckK_el h
      obtain ⟨t3, e2, h⟩ := cal_el h
      refine g_VI (As := []) (rest := [.int x5]) hC hP hS z1.1 (cE_6 z1.2) (C := RX6) (T := TX6) (N := 8) rfl (m_X6_vertices l G F S D x0 t3 e2) (cwV 0 hts (gVA wa_223 wa_224 wa_225 (hWCA _ wc_66) (hWCA _ wc_73) hWCA) rfl rfl rfl (by decide +kernel) ⟨Nat.le_of_ble_eq_true rfl, Nat.le_of_ble_eq_true rfl⟩) rfl hl.1 rfl (Nat.le_of_ble_eq_true rfl) dL_areVertices_48 ⟨Nat.le_of_ble_eq_true rfl, Nat.le_of_ble_eq_true rfl⟩ (fun H locs hP hS => ?_)
      refine lv_icmp_ge (tgt := 397) hx hb dL_areVertices_51 (by decide) (fun u4 => ?_) (fun u4 => ?_)
      · have h := ite_t u4 h
        refine W.widen (k := 2) (n := 12) (Nat.le_of_ble_eq_true rfl) (Nat.le_of_ble_eq_true rfl) ?_
        exact b397 _ _ _ D x0 x3 x4 hP hS (lv_sub hl [0, 3, 4] rfl) h
      · have h := ite_f u4 h
        refine lv_iload hx hb dL_areVertices_54 (lv_at hl 4 rfl) ?_
        refine lv_if_eq (tgt := 397) hx hb dL_areVertices_56 (by decide) (fun u5 => ?_) (fun u5 => ?_)
        · have h := ite_t u5 h
          refine W.widen (k := 2) (n := 12) (Nat.le_of_ble_eq_true rfl) (Nat.le_of_ble_eq_true rfl) ?_
          exact b397 _ _ _ D x0 x3 x4 hP hS (lv_sub hl [0, 3, 4] rfl) h
        · have h := ite_f u5 h
          refine lv_iconst (v := 0) hx hb dL_areVertices_59 (by decide) ?_
          refine lv_istore (lv' := [(6, .int 0), (0, .ref x0), (1, .ref x1), (2, .ref x2), (3, .int x3), (4, .int x4), (5, .int x5)]) hx hb dL_areVertices_60 hl (by decide) rfl (fun ls hl => ?_)
          refine lv_iconst (v := 0) hx hb dL_areVertices_62 (by decide) ?_
          refine lv_istore (lv' := [(7, .int 0), (6, .int 0), (0, .ref x0), (1, .ref x1), (2, .ref x2), (3, .int x3), (4, .int x4), (5, .int x5)]) hx hb dL_areVertices_63 hl (by decide) rfl (fun ls hl => ?_)
          refine lv_iconst (v := 0) hx hb dL_areVertices_65 (by decide) ?_
          refine lv_istore (lv' := [(8, .int 0), (7, .int 0), (6, .int 0), (0, .ref x0), (1, .ref x1), (2, .ref x2), (3, .int x3), (4, .int x4), (5, .int x5)]) hx hb dL_areVertices_66 hl (by decide) rfl (fun ls hl => ?_)
          refine W.widen (k := 2) (n := 12) (Nat.le_of_ble_eq_true rfl) (Nat.le_of_ble_eq_true rfl) ?_
          exact L68 F _ _ _ D x0 x1 x2 x3 x5 0 0 0 hP hS (lv_sub hl [3, 4, 5, 6, 8, 2, 1, 0] rfl) h
  refine m_entry (Nat.le_of_ble_eq_true rfl) (fun ls hl => ?_)
  have hl : lv_has ls 12 [(0, .ref a1), (1, .ref a2), (2, .ref a3)] := hl
  unfold f_L_areVertices at h
  refine lv_iconst (v := 0) hx hb dL_areVertices_0 (by decide) ?_
  refine lv_istore_n (lv' := [(3, .int 0), (0, .ref a1), (1, .ref a2), (2, .ref a3)]) hx hb dL_areVertices_1 rfl hl (by decide) rfl (fun ls hl => ?_)
  refine lv_aload_n hx hb dL_areVertices_2 rfl (lv_at hl 1 rfl) ?_
  refine lv_iconst (v := 1) hx hb dL_areVertices_3 (by decide) ?_
  refine lv_aload_n hx hb dL_areVertices_4 rfl (lv_at hl 3 rfl) ?_
  refine lv_iconst (v := 0) hx hb dL_areVertices_5 (by decide) ?_
  obtain ⟨z1, h⟩ := ckK_el h
  obtain ⟨y3, t2, e4, h⟩ := rdI_el h
  refine g_ild hC hP z1.1 z1.2 y3 e4 dL_areVertices_6 ?_
  refine lv_iconst (v := 5) hx hb dL_areVertices_7 (by decide) ?_
  refine lv_irem hx hb dL_areVertices_8 (by decide) ?_
  refine lv_iadd hx hb dL_areVertices_9 ?_
  refine lv_aload_n hx hb dL_areVertices_10 rfl (lv_at hl 1 rfl) ?_
  obtain ⟨z5, h⟩ := ckK_el h
  obtain ⟨t7, e6, h⟩ := cal_el h
  refine g_VI (As := []) (rest := [.int (1 + (t2 - t2 / 5 * 5)), .ref a1]) hC hP hS z5.1 (cE_6 z5.2) (C := RX6) (T := TX6) (N := 8) rfl (m_X6_vertices l G F S D a1 t7 e6) (cwV 0 hts (gVA wa_223 wa_224 wa_225 (hWCA _ wc_66) (hWCA _ wc_73) hWCA) rfl rfl rfl (by decide +kernel) ⟨Nat.le_of_ble_eq_true rfl, Nat.le_of_ble_eq_true rfl⟩) rfl hl.1 rfl (Nat.le_of_ble_eq_true rfl) dL_areVertices_11 ⟨Nat.le_of_ble_eq_true rfl, Nat.le_of_ble_eq_true rfl⟩ (fun H locs hP hS => ?_)
  obtain ⟨D9, t10, e8, h⟩ := caM_el h
  refine g_SX (As := [.ref a1, .int (1 + (t2 - t2 / 5 * 5)), .int t7]) (rest := []) (mc := 1) (ms := 6) hC hv hP hS (m_L_of l hfl G F S z9 D D9 a1 (1 + (t2 - t2 / 5 * 5)) t7 t10 e8) (vx_cwSW 3 hts (gSX wa_237 wa_238 wa_233 wa_147) rfl rfl rfl (by decide +kernel) ⟨Nat.le_of_ble_eq_true rfl, Nat.le_of_ble_eq_true rfl⟩) rfl hl.1 rfl (Nat.le_of_ble_eq_true rfl) dL_areVertices_14 ⟨Nat.le_of_ble_eq_true rfl, Nat.le_of_ble_eq_true rfl⟩ (fun H locs hP hS => ?_)
  refine lv_sipush (v := (-601)) hx hb dL_areVertices_17 (by decide) ?_
  refine lv_icmp_ne (tgt := 39) hx hb dL_areVertices_20 (by decide) (fun u11 => ?_) (fun u11 => ?_)
  · have h := ite_f u11 h
    refine lv_iconst (v := 0) hx hb dL_areVertices_39 (by decide) ?_
    refine lv_istore (lv' := [(4, .int 0), (3, .int 0), (0, .ref a1), (1, .ref a2), (2, .ref a3)]) hx hb dL_areVertices_40 hl (by decide) rfl (fun ls hl => ?_)
    refine lv_iconst (v := 0) hx hb dL_areVertices_42 (by decide) ?_
    refine lv_istore (lv' := [(5, .int 0), (4, .int 0), (3, .int 0), (0, .ref a1), (1, .ref a2), (2, .ref a3)]) hx hb dL_areVertices_43 hl (by decide) rfl (fun ls hl => ?_)
    refine W.widen (k := 2) (n := 12) (Nat.le_of_ble_eq_true rfl) (Nat.le_of_ble_eq_true rfl) ?_
    exact L45 F _ _ _ D9 a1 a2 a3 0 0 0 hP hS (lv_sub hl [3, 4, 5, 2, 1, 0] rfl) h
  · have h := ite_t u11 h
    refine lv_aload_n hx hb dL_areVertices_23 rfl (lv_at hl 1 rfl) ?_
    refine lv_iconst (v := 3) hx hb dL_areVertices_24 (by decide) ?_
    refine lv_iconst (v := (-1)) hx hb dL_areVertices_25 (by decide) ?_
    obtain ⟨D13, t14, e12, h⟩ := caM_el h
    refine g_SX (As := [.ref a1, .int 3, .int ((-1))]) (rest := []) (mc := 1) (ms := 6) hC hv hP hS (m_L_of l hfl G F S z9 D9 D13 a1 3 ((-1)) t14 e12) (vx_cwSW 3 hts (gSX wa_237 wa_238 wa_233 wa_147) rfl rfl rfl (by decide +kernel) ⟨Nat.le_of_ble_eq_true rfl, Nat.le_of_ble_eq_true rfl⟩) rfl hl.1 rfl (Nat.le_of_ble_eq_true rfl) dL_areVertices_26 ⟨Nat.le_of_ble_eq_true rfl, Nat.le_of_ble_eq_true rfl⟩ (fun H locs hP hS => ?_)
    refine lv_sipush (v := (-601)) hx hb dL_areVertices_29 (by decide) ?_
    refine lv_icmp_ne (tgt := 39) hx hb dL_areVertices_32 (by decide) (fun u15 => ?_) (fun u15 => ?_)
    · have h := ite_f u15 h
      refine lv_iconst (v := 0) hx hb dL_areVertices_39 (by decide) ?_
      refine lv_istore (lv' := [(4, .int 0), (3, .int 0), (0, .ref a1), (1, .ref a2), (2, .ref a3)]) hx hb dL_areVertices_40 hl (by decide) rfl (fun ls hl => ?_)
      refine lv_iconst (v := 0) hx hb dL_areVertices_42 (by decide) ?_
      refine lv_istore (lv' := [(5, .int 0), (4, .int 0), (3, .int 0), (0, .ref a1), (1, .ref a2), (2, .ref a3)]) hx hb dL_areVertices_43 hl (by decide) rfl (fun ls hl => ?_)
      refine W.widen (k := 2) (n := 12) (Nat.le_of_ble_eq_true rfl) (Nat.le_of_ble_eq_true rfl) ?_
      exact L45 F _ _ _ D13 a1 a2 a3 0 0 0 hP hS (lv_sub hl [3, 4, 5, 2, 1, 0] rfl) h
    · have h := ite_t u15 h
      refine lv_iconst (v := 1) hx hb dL_areVertices_35 (by decide) ?_
      refine lv_goto (tgt := 40) hx hb dL_areVertices_36 (by decide) ?_
      refine lv_istore (lv' := [(4, .int 1), (3, .int 0), (0, .ref a1), (1, .ref a2), (2, .ref a3)]) hx hb dL_areVertices_40 hl (by decide) rfl (fun ls hl => ?_)
      refine lv_iconst (v := 0) hx hb dL_areVertices_42 (by decide) ?_
      refine lv_istore (lv' := [(5, .int 0), (4, .int 1), (3, .int 0), (0, .ref a1), (1, .ref a2), (2, .ref a3)]) hx hb dL_areVertices_43 hl (by decide) rfl (fun ls hl => ?_)
      refine W.widen (k := 2) (n := 12) (Nat.le_of_ble_eq_true rfl) (Nat.le_of_ble_eq_true rfl) ?_
      exact L45 F _ _ _ D13 a1 a2 a3 0 1 0 hP hS (lv_sub hl [3, 4, 5, 2, 1, 0] rfl) h
