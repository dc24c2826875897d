theorem dL_areFaces_0 : decode cL_areFaces 0 = .ok (.iconst 0, 1) := by decide +kernel
theorem dL_areFaces_1 : decode cL_areFaces 1 = .ok (.istore_n 1, 1) := by decide +kernel
theorem dL_areFaces_2 : decode cL_areFaces 2 = .ok (.iconst (-1), 1) := by decide +kernel
theorem dL_areFaces_3 : decode cL_areFaces 3 = .ok (.istore_n 2, 1) := by decide +kernel
theorem dL_areFaces_4 : decode cL_areFaces 4 = .ok (.aload_n 0, 1) := by decide +kernel
theorem dL_areFaces_5 : decode cL_areFaces 5 = .ok (.invokevirtual 81, 3) := by decide +kernel
theorem dL_areFaces_8 : decode cL_areFaces 8 = .ok (.aload_n 0, 1) := by decide +kernel
theorem dL_areFaces_9 : decode cL_areFaces 9 = .ok (.invokevirtual 100, 3) := by decide +kernel
theorem dL_areFaces_12 : decode cL_areFaces 12 = .ok (.aload_n 0, 1) := by decide +kernel
theorem dL_areFaces_13 : decode cL_areFaces 13 = .ok (.invokevirtual 89, 3) := by decide +kernel
theorem dL_areFaces_16 : decode cL_areFaces 16 = .ok (.isub, 1) := by decide +kernel
theorem dL_areFaces_17 : decode cL_areFaces 17 = .ok (.aload_n 0, 1) := by decide +kernel
theorem dL_areFaces_18 : decode cL_areFaces 18 = .ok (.invokevirtual 86, 3) := by decide +kernel
theorem dL_areFaces_21 : decode cL_areFaces 21 = .ok (.iadd, 1) := by decide +kernel
theorem dL_areFaces_22 : decode cL_areFaces 22 = .ok (.iconst 1, 1) := by decide +kernel
theorem dL_areFaces_23 : decode cL_areFaces 23 = .ok (.iadd, 1) := by decide +kernel
theorem dL_areFaces_24 : decode cL_areFaces 24 = .ok (.if_icmp .ne 84, 3) := by decide +kernel
theorem dL_areFaces_27 : decode cL_areFaces 27 = .ok (.aload_n 0, 1) := by decide +kernel
theorem dL_areFaces_28 : decode cL_areFaces 28 = .ok (.invokevirtual 86, 3) := by decide +kernel
theorem dL_areFaces_31 : decode cL_areFaces 31 = .ok (.ifCond .lt 77, 3) := by decide +kernel
theorem dL_areFaces_34 : decode cL_areFaces 34 = .ok (.aload_n 0, 1) := by decide +kernel
theorem dL_areFaces_35 : decode cL_areFaces 35 = .ok (.invokevirtual 86, 3) := by decide +kernel
theorem dL_areFaces_38 : decode cL_areFaces 38 = .ok (.aload_n 0, 1) := by decide +kernel
theorem dL_areFaces_39 : decode cL_areFaces 39 = .ok (.invokevirtual 75, 3) := by decide +kernel
theorem dL_areFaces_42 : decode cL_areFaces 42 = .ok (.if_icmp .gt 66, 3) := by decide +kernel
theorem dL_areFaces_45 : decode cL_areFaces 45 = .ok (.aload_n 0, 1) := by decide +kernel
theorem dL_areFaces_46 : decode cL_areFaces 46 = .ok (.invokevirtual 75, 3) := by decide +kernel
theorem dL_areFaces_49 : decode cL_areFaces 49 = .ok (.ifCond .eq 10, 3) := by decide +kernel
theorem dL_areFaces_52 : decode cL_areFaces 52 = .ok (.aload_n 0, 1) := by decide +kernel
theorem dL_areFaces_53 : decode cL_areFaces 53 = .ok (.invokevirtual 86, 3) := by decide +kernel
theorem dL_areFaces_56 : decode cL_areFaces 56 = .ok (.ifCond .le 52, 3) := by decide +kernel
theorem dL_areFaces_59 : decode cL_areFaces 59 = .ok (.aload_n 0, 1) := by decide +kernel
theorem dL_areFaces_60 : decode cL_areFaces 60 = .ok (.bipush 11, 2) := by decide +kernel
theorem dL_areFaces_62 : decode cL_areFaces 62 = .ok (.aload_n 0, 1) := by decide +kernel
theorem dL_areFaces_63 : decode cL_areFaces 63 = .ok (.invokevirtual 81, 3) := by decide +kernel
theorem dL_areFaces_66 : decode cL_areFaces 66 = .ok (.invokestatic 120, 3) := by decide +kernel
theorem dL_areFaces_69 : decode cL_areFaces 69 = .ok (.sipush (-601), 3) := by decide +kernel
theorem dL_areFaces_72 : decode cL_areFaces 72 = .ok (.if_icmp .ne 36, 3) := by decide +kernel
theorem dL_areFaces_75 : decode cL_areFaces 75 = .ok (.aload_n 0, 1) := by decide +kernel
theorem dL_areFaces_76 : decode cL_areFaces 76 = .ok (.bipush 12, 2) := by decide +kernel
theorem dL_areFaces_78 : decode cL_areFaces 78 = .ok (.aload_n 0, 1) := by decide +kernel
theorem dL_areFaces_79 : decode cL_areFaces 79 = .ok (.invokevirtual 81, 3) := by decide +kernel
theorem dL_areFaces_82 : decode cL_areFaces 82 = .ok (.invokestatic 120, 3) := by decide +kernel
theorem dL_areFaces_85 : decode cL_areFaces 85 = .ok (.sipush (-601), 3) := by decide +kernel
theorem dL_areFaces_88 : decode cL_areFaces 88 = .ok (.if_icmp .ne 20, 3) := by decide +kernel
theorem dL_areFaces_91 : decode cL_areFaces 91 = .ok (.aload_n 0, 1) := by decide +kernel
theorem dL_areFaces_92 : decode cL_areFaces 92 = .ok (.bipush 11, 2) := by decide +kernel
theorem dL_areFaces_94 : decode cL_areFaces 94 = .ok (.iconst (-1), 1) := by decide +kernel
theorem dL_areFaces_95 : decode cL_areFaces 95 = .ok (.invokestatic 120, 3) := by decide +kernel
theorem dL_areFaces_98 : decode cL_areFaces 98 = .ok (.sipush (-601), 3) := by decide +kernel
theorem dL_areFaces_101 : decode cL_areFaces 101 = .ok (.if_icmp .ne 7, 3) := by decide +kernel
theorem dL_areFaces_104 : decode cL_areFaces 104 = .ok (.iconst 1, 1) := by decide +kernel
theorem dL_areFaces_105 : decode cL_areFaces 105 = .ok (.goto 4, 3) := by decide +kernel
theorem dL_areFaces_108 : decode cL_areFaces 108 = .ok (.iconst 0, 1) := by decide +kernel
theorem dL_areFaces_109 : decode cL_areFaces 109 = .ok (.istore_n 3, 1) := by decide +kernel
theorem dL_areFaces_110 : decode cL_areFaces 110 = .ok (.iconst 0, 1) := by decide +kernel
theorem dL_areFaces_111 : decode cL_areFaces 111 = .ok (.istore 4, 2) := by decide +kernel
theorem dL_areFaces_113 : decode cL_areFaces 113 = .ok (.iload 4, 2) := by decide +kernel
theorem dL_areFaces_115 : decode cL_areFaces 115 = .ok (.aload_n 0, 1) := by decide +kernel
theorem dL_areFaces_116 : decode cL_areFaces 116 = .ok (.invokevirtual 81, 3) := by decide +kernel
theorem dL_areFaces_119 : decode cL_areFaces 119 = .ok (.if_icmp .ge 226, 3) := by decide +kernel
theorem dL_areFaces_122 : decode cL_areFaces 122 = .ok (.iload_n 3, 1) := by decide +kernel
theorem dL_areFaces_123 : decode cL_areFaces 123 = .ok (.ifCond .eq 222, 3) := by decide +kernel
theorem dL_areFaces_126 : decode cL_areFaces 126 = .ok (.iconst 0, 1) := by decide +kernel
theorem dL_areFaces_127 : decode cL_areFaces 127 = .ok (.istore 5, 2) := by decide +kernel
theorem dL_areFaces_129 : decode cL_areFaces 129 = .ok (.iconst 0, 1) := by decide +kernel
theorem dL_areFaces_130 : decode cL_areFaces 130 = .ok (.istore 6, 2) := by decide +kernel
theorem dL_areFaces_132 : decode cL_areFaces 132 = .ok (.aload_n 0, 1) := by decide +kernel
theorem dL_areFaces_133 : decode cL_areFaces 133 = .ok (.iload 4, 2) := by decide +kernel
theorem dL_areFaces_135 : decode cL_areFaces 135 = .ok (.invokevirtual 56, 3) := by decide +kernel
theorem dL_areFaces_138 : decode cL_areFaces 138 = .ok (.istore 7, 2) := by decide +kernel
theorem dL_areFaces_140 : decode cL_areFaces 140 = .ok (.iconst 0, 1) := by decide +kernel
theorem dL_areFaces_141 : decode cL_areFaces 141 = .ok (.istore 8, 2) := by decide +kernel
theorem dL_areFaces_143 : decode cL_areFaces 143 = .ok (.iload 8, 2) := by decide +kernel
theorem dL_areFaces_145 : decode cL_areFaces 145 = .ok (.aload_n 0, 1) := by decide +kernel
theorem dL_areFaces_146 : decode cL_areFaces 146 = .ok (.invokevirtual 100, 3) := by decide +kernel
theorem dL_areFaces_149 : decode cL_areFaces 149 = .ok (.if_icmp .ge 130, 3) := by decide +kernel
theorem dL_areFaces_152 : decode cL_areFaces 152 = .ok (.aload_n 0, 1) := by decide +kernel
theorem dL_areFaces_153 : decode cL_areFaces 153 = .ok (.iload 8, 2) := by decide +kernel
theorem dL_areFaces_155 : decode cL_areFaces 155 = .ok (.invokevirtual 47, 3) := by decide +kernel
theorem dL_areFaces_158 : decode cL_areFaces 158 = .ok (.iload 4, 2) := by decide +kernel
theorem dL_areFaces_160 : decode cL_areFaces 160 = .ok (.if_icmp .eq 14, 3) := by decide +kernel
theorem dL_areFaces_163 : decode cL_areFaces 163 = .ok (.aload_n 0, 1) := by decide +kernel
theorem dL_areFaces_164 : decode cL_areFaces 164 = .ok (.iload 8, 2) := by decide +kernel
theorem dL_areFaces_166 : decode cL_areFaces 166 = .ok (.invokevirtual 50, 3) := by decide +kernel
theorem dL_areFaces_169 : decode cL_areFaces 169 = .ok (.iload 4, 2) := by decide +kernel
theorem dL_areFaces_171 : decode cL_areFaces 171 = .ok (.if_icmp .ne 7, 3) := by decide +kernel
theorem dL_areFaces_174 : decode cL_areFaces 174 = .ok (.iconst 1, 1) := by decide +kernel
theorem dL_areFaces_175 : decode cL_areFaces 175 = .ok (.goto 4, 3) := by decide +kernel
theorem dL_areFaces_178 : decode cL_areFaces 178 = .ok (.iconst 0, 1) := by decide +kernel
theorem dL_areFaces_179 : decode cL_areFaces 179 = .ok (.istore 9, 2) := by decide +kernel
theorem dL_areFaces_181 : decode cL_areFaces 181 = .ok (.iload 5, 2) := by decide +kernel
theorem dL_areFaces_183 : decode cL_areFaces 183 = .ok (.aload_n 0, 1) := by decide +kernel
theorem dL_areFaces_184 : decode cL_areFaces 184 = .ok (.iload 8, 2) := by decide +kernel
theorem dL_areFaces_186 : decode cL_areFaces 186 = .ok (.invokevirtual 47, 3) := by decide +kernel
theorem dL_areFaces_189 : decode cL_areFaces 189 = .ok (.iload 4, 2) := by decide +kernel
theorem dL_areFaces_191 : decode cL_areFaces 191 = .ok (.if_icmp .ne 7, 3) := by decide +kernel
theorem dL_areFaces_194 : decode cL_areFaces 194 = .ok (.iconst 1, 1) := by decide +kernel
theorem dL_areFaces_195 : decode cL_areFaces 195 = .ok (.goto 4, 3) := by decide +kernel
theorem dL_areFaces_198 : decode cL_areFaces 198 = .ok (.iconst 0, 1) := by decide +kernel
theorem dL_areFaces_199 : decode cL_areFaces 199 = .ok (.aload_n 0, 1) := by decide +kernel
theorem dL_areFaces_200 : decode cL_areFaces 200 = .ok (.iload 8, 2) := by decide +kernel
theorem dL_areFaces_202 : decode cL_areFaces 202 = .ok (.invokevirtual 50, 3) := by decide +kernel
theorem dL_areFaces_205 : decode cL_areFaces 205 = .ok (.iload 4, 2) := by decide +kernel
theorem dL_areFaces_207 : decode cL_areFaces 207 = .ok (.if_icmp .ne 7, 3) := by decide +kernel
theorem dL_areFaces_210 : decode cL_areFaces 210 = .ok (.iconst 1, 1) := by decide +kernel
theorem dL_areFaces_211 : decode cL_areFaces 211 = .ok (.goto 4, 3) := by decide +kernel
theorem dL_areFaces_214 : decode cL_areFaces 214 = .ok (.iconst 0, 1) := by decide +kernel
theorem dL_areFaces_215 : decode cL_areFaces 215 = .ok (.iadd, 1) := by decide +kernel
theorem dL_areFaces_216 : decode cL_areFaces 216 = .ok (.iadd, 1) := by decide +kernel
theorem dL_areFaces_217 : decode cL_areFaces 217 = .ok (.istore 5, 2) := by decide +kernel
theorem dL_areFaces_219 : decode cL_areFaces 219 = .ok (.iload 6, 2) := by decide +kernel
theorem dL_areFaces_221 : decode cL_areFaces 221 = .ok (.ifCond .ne 19, 3) := by decide +kernel
theorem dL_areFaces_224 : decode cL_areFaces 224 = .ok (.iload 9, 2) := by decide +kernel
theorem dL_areFaces_226 : decode cL_areFaces 226 = .ok (.ifCond .eq 18, 3) := by decide +kernel
theorem dL_areFaces_229 : decode cL_areFaces 229 = .ok (.aload_n 0, 1) := by decide +kernel
theorem dL_areFaces_230 : decode cL_areFaces 230 = .ok (.iload 8, 2) := by decide +kernel
theorem dL_areFaces_232 : decode cL_areFaces 232 = .ok (.invokevirtual 41, 3) := by decide +kernel
theorem dL_areFaces_235 : decode cL_areFaces 235 = .ok (.iload 7, 2) := by decide +kernel
theorem dL_areFaces_237 : decode cL_areFaces 237 = .ok (.if_icmp .ne 7, 3) := by decide +kernel
theorem dL_areFaces_240 : decode cL_areFaces 240 = .ok (.iconst 1, 1) := by decide +kernel
theorem dL_areFaces_241 : decode cL_areFaces 241 = .ok (.goto 4, 3) := by decide +kernel
theorem dL_areFaces_244 : decode cL_areFaces 244 = .ok (.iconst 0, 1) := by decide +kernel
theorem dL_areFaces_245 : decode cL_areFaces 245 = .ok (.istore 6, 2) := by decide +kernel
theorem dL_areFaces_247 : decode cL_areFaces 247 = .ok (.iload_n 3, 1) := by decide +kernel
theorem dL_areFaces_248 : decode cL_areFaces 248 = .ok (.ifCond .eq 23, 3) := by decide +kernel
theorem dL_areFaces_251 : decode cL_areFaces 251 = .ok (.iload 9, 2) := by decide +kernel
theorem dL_areFaces_253 : decode cL_areFaces 253 = .ok (.ifCond .eq 14, 3) := by decide +kernel
theorem dL_areFaces_256 : decode cL_areFaces 256 = .ok (.aload_n 0, 1) := by decide +kernel
theorem dL_areFaces_257 : decode cL_areFaces 257 = .ok (.iload 8, 2) := by decide +kernel
theorem dL_areFaces_259 : decode cL_areFaces 259 = .ok (.invokevirtual 41, 3) := by decide +kernel
theorem dL_areFaces_262 : decode cL_areFaces 262 = .ok (.iload 7, 2) := by decide +kernel
theorem dL_areFaces_264 : decode cL_areFaces 264 = .ok (.if_icmp .lt 7, 3) := by decide +kernel
theorem dL_areFaces_267 : decode cL_areFaces 267 = .ok (.iconst 1, 1) := by decide +kernel
theorem dL_areFaces_268 : decode cL_areFaces 268 = .ok (.goto 4, 3) := by decide +kernel
theorem dL_areFaces_271 : decode cL_areFaces 271 = .ok (.iconst 0, 1) := by decide +kernel
theorem dL_areFaces_272 : decode cL_areFaces 272 = .ok (.istore_n 3, 1) := by decide +kernel
theorem dL_areFaces_273 : decode cL_areFaces 273 = .ok (.iinc 8 1, 3) := by decide +kernel
theorem dL_areFaces_276 : decode cL_areFaces 276 = .ok (.goto (-133), 3) := by decide +kernel
theorem dL_areFaces_279 : decode cL_areFaces 279 = .ok (.iload_n 1, 1) := by decide +kernel
theorem dL_areFaces_280 : decode cL_areFaces 280 = .ok (.iload 5, 2) := by decide +kernel
theorem dL_areFaces_282 : decode cL_areFaces 282 = .ok (.iadd, 1) := by decide +kernel
theorem dL_areFaces_283 : decode cL_areFaces 283 = .ok (.istore_n 1, 1) := by decide +kernel
theorem dL_areFaces_284 : decode cL_areFaces 284 = .ok (.iload_n 3, 1) := by decide +kernel
theorem dL_areFaces_285 : decode cL_areFaces 285 = .ok (.ifCond .eq 49, 3) := by decide +kernel
theorem dL_areFaces_288 : decode cL_areFaces 288 = .ok (.aload_n 0, 1) := by decide +kernel
theorem dL_areFaces_289 : decode cL_areFaces 289 = .ok (.iload 4, 2) := by decide +kernel
theorem dL_areFaces_291 : decode cL_areFaces 291 = .ok (.invokevirtual 53, 3) := by decide +kernel
theorem dL_areFaces_294 : decode cL_areFaces 294 = .ok (.iload 5, 2) := by decide +kernel
theorem dL_areFaces_296 : decode cL_areFaces 296 = .ok (.if_icmp .ne 38, 3) := by decide +kernel
theorem dL_areFaces_299 : decode cL_areFaces 299 = .ok (.iload 4, 2) := by decide +kernel
theorem dL_areFaces_301 : decode cL_areFaces 301 = .ok (.ifCond .ne 12, 3) := by decide +kernel
theorem dL_areFaces_304 : decode cL_areFaces 304 = .ok (.iload 7, 2) := by decide +kernel
theorem dL_areFaces_306 : decode cL_areFaces 306 = .ok (.iconst (-1), 1) := by decide +kernel
theorem dL_areFaces_307 : decode cL_areFaces 307 = .ok (.if_icmp .ne 27, 3) := by decide +kernel
theorem dL_areFaces_310 : decode cL_areFaces 310 = .ok (.goto 20, 3) := by decide +kernel
theorem dL_areFaces_313 : decode cL_areFaces 313 = .ok (.iload 5, 2) := by decide +kernel
theorem dL_areFaces_315 : decode cL_areFaces 315 = .ok (.iconst 3, 1) := by decide +kernel
theorem dL_areFaces_316 : decode cL_areFaces 316 = .ok (.if_icmp .lt 18, 3) := by decide +kernel
theorem dL_areFaces_319 : decode cL_areFaces 319 = .ok (.iload 6, 2) := by decide +kernel
theorem dL_areFaces_321 : decode cL_areFaces 321 = .ok (.ifCond .eq 13, 3) := by decide +kernel
theorem dL_areFaces_324 : decode cL_areFaces 324 = .ok (.iload 7, 2) := by decide +kernel
theorem dL_areFaces_326 : decode cL_areFaces 326 = .ok (.iload_n 2, 1) := by decide +kernel
theorem dL_areFaces_327 : decode cL_areFaces 327 = .ok (.if_icmp .lt 7, 3) := by decide +kernel
theorem dL_areFaces_330 : decode cL_areFaces 330 = .ok (.iconst 1, 1) := by decide +kernel
theorem dL_areFaces_331 : decode cL_areFaces 331 = .ok (.goto 4, 3) := by decide +kernel
theorem dL_areFaces_334 : decode cL_areFaces 334 = .ok (.iconst 0, 1) := by decide +kernel
theorem dL_areFaces_335 : decode cL_areFaces 335 = .ok (.istore_n 3, 1) := by decide +kernel
theorem dL_areFaces_336 : decode cL_areFaces 336 = .ok (.iload 7, 2) := by decide +kernel
theorem dL_areFaces_338 : decode cL_areFaces 338 = .ok (.istore_n 2, 1) := by decide +kernel
theorem dL_areFaces_339 : decode cL_areFaces 339 = .ok (.iinc 4 1, 3) := by decide +kernel
theorem dL_areFaces_342 : decode cL_areFaces 342 = .ok (.goto (-229), 3) := by decide +kernel
theorem dL_areFaces_345 : decode cL_areFaces 345 = .ok (.iload_n 3, 1) := by decide +kernel
theorem dL_areFaces_346 : decode cL_areFaces 346 = .ok (.ifCond .eq 17, 3) := by decide +kernel
theorem dL_areFaces_349 : decode cL_areFaces 349 = .ok (.iload_n 1, 1) := by decide +kernel
theorem dL_areFaces_350 : decode cL_areFaces 350 = .ok (.iconst 2, 1) := by decide +kernel
theorem dL_areFaces_351 : decode cL_areFaces 351 = .ok (.aload_n 0, 1) := by decide +kernel
theorem dL_areFaces_352 : decode cL_areFaces 352 = .ok (.invokevirtual 100, 3) := by decide +kernel
theorem dL_areFaces_355 : decode cL_areFaces 355 = .ok (.imul, 1) := by decide +kernel
theorem dL_areFaces_356 : decode cL_areFaces 356 = .ok (.if_icmp .ne 7, 3) := by decide +kernel
theorem dL_areFaces_359 : decode cL_areFaces 359 = .ok (.iconst 1, 1) := by decide +kernel
theorem dL_areFaces_360 : decode cL_areFaces 360 = .ok (.goto 4, 3) := by decide +kernel
theorem dL_areFaces_363 : decode cL_areFaces 363 = .ok (.iconst 0, 1) := by decide +kernel
theorem dL_areFaces_364 : decode cL_areFaces 364 = .ok (.ireturn, 1) := by decide +kernel
def wL_areFaces : List Cond := Cond.code yL_areFaces cL_areFaces 10 (some .boolean) :: WA
def f_L_areFaces_b345 (F : Nat) (S : CS) (D : CD) (x0 : Nat) (x1 : Int32) (x3 : Int32) : Option (CD × Int32) := (if x3 = 0 then okB 0 (some (D, 0)) else ckK S x0 6 <| cal (f_X6_edges F S D x0) fun t5 => (if x1 = (2 * t5) then okB 1 (some (D, 1)) else okB 0 (some (D, 0))))
def f_L_areFaces_b335 (F : Nat) (S : CS) (k113 : CD → Nat → Int32 → Int32 → Int32 → Int32 → Option (CD × Int32)) (D : CD) (x0 : Nat) (x1 : Int32) (x4 : Int32) (x7 : Int32) (s0 : Int32) : Option (CD × Int32) := k113 D x0 x1 x7 s0 (x4 + 1)
def f_L_areFaces_b272 (F : Nat) (S : CS) (k113 : CD → Nat → Int32 → Int32 → Int32 → Int32 → Option (CD × Int32)) (k143 : CD → Nat → Int32 → Int32 → Int32 → Int32 → Int32 → Int32 → Int32 → Int32 → Option (CD × Int32)) (D : CD) (x0 : Nat) (x1 : Int32) (x2 : Int32) (x4 : Int32) (x5 : Int32) (x6 : Int32) (x7 : Int32) (x8 : Int32) (s0 : Int32) : Option (CD × Int32) := k143 D x0 x1 x2 s0 x4 x5 x6 x7 (x8 + 1)
def f_L_areFaces_b245 (F : Nat) (S : CS) (k113 : CD → Nat → Int32 → Int32 → Int32 → Int32 → Option (CD × Int32)) (k143 : CD → Nat → Int32 → Int32 → Int32 → Int32 → Int32 → Int32 → Int32 → Int32 → Option (CD × Int32)) (D : CD) (x0 : Nat) (x1 : Int32) (x2 : Int32) (x3 : Int32) (x4 : Int32) (x5 : Int32) (x7 : Int32) (x8 : Int32) (x9 : Int32) (s0 : Int32) : Option (CD × Int32) := (if x3 = 0 then f_L_areFaces_b272 F S k113 k143 D x0 x1 x2 x4 x5 s0 x7 x8 0 else (if x9 = 0 then f_L_areFaces_b272 F S k113 k143 D x0 x1 x2 x4 x5 s0 x7 x8 1 else ckK S x0 6 <| cal (f_X6_from F S D x0 x8) fun t5 => (if t5 < x7 then f_L_areFaces_b272 F S k113 k143 D x0 x1 x2 x4 x5 s0 x7 x8 0 else f_L_areFaces_b272 F S k113 k143 D x0 x1 x2 x4 x5 s0 x7 x8 1)))
def f_L_areFaces_b215 (F : Nat) (S : CS) (k113 : CD → Nat → Int32 → Int32 → Int32 → Int32 → Option (CD × Int32)) (k143 : CD → Nat → Int32 → Int32 → Int32 → Int32 → Int32 → Int32 → Int32 → Int32 → Option (CD × Int32)) (D : CD) (x0 : Nat) (x1 : Int32) (x2 : Int32) (x3 : Int32) (x4 : Int32) (x6 : Int32) (x7 : Int32) (x8 : Int32) (x9 : Int32) (s0 : Int32) (s1 : Int32) (s2 : Int32) : Option (CD × Int32) := (if x6 = 0 then (if x9 = 0 then f_L_areFaces_b245 F S k113 k143 D x0 x1 x2 x3 x4 (s2 + (s1 + s0)) x7 x8 x9 0 else ckK S x0 6 <| cal (f_X6_from F S D x0 x8) fun t5 => (if t5 = x7 then f_L_areFaces_b245 F S k113 k143 D x0 x1 x2 x3 x4 (s2 + (s1 + s0)) x7 x8 x9 1 else f_L_areFaces_b245 F S k113 k143 D x0 x1 x2 x3 x4 (s2 + (s1 + s0)) x7 x8 x9 0)) else f_L_areFaces_b245 F S k113 k143 D x0 x1 x2 x3 x4 (s2 + (s1 + s0)) x7 x8 x9 1)
def f_L_areFaces_b199 (F : Nat) (S : CS) (k113 : CD → Nat → Int32 → Int32 → Int32 → Int32 → Option (CD × Int32)) (k143 : CD → Nat → Int32 → Int32 → Int32 → Int32 → Int32 → Int32 → Int32 → Int32 → Option (CD × Int32)) (D : CD) (x0 : Nat) (x1 : Int32) (x2 : Int32) (x3 : Int32) (x4 : Int32) (x6 : Int32) (x7 : Int32) (x8 : Int32) (x9 : Int32) (s0 : Int32) (s1 : Int32) : Option (CD × Int32) := ckK S x0 6 <| cal (f_X6_rightOf F S D x0 x8) fun t3 => (if t3 = x4 then f_L_areFaces_b215 F S k113 k143 D x0 x1 x2 x3 x4 x6 x7 x8 x9 1 s0 s1 else f_L_areFaces_b215 F S k113 k143 D x0 x1 x2 x3 x4 x6 x7 x8 x9 0 s0 s1)
def f_L_areFaces_b179 (F : Nat) (S : CS) (k113 : CD → Nat → Int32 → Int32 → Int32 → Int32 → Option (CD × Int32)) (k143 : CD → Nat → Int32 → Int32 → Int32 → Int32 → Int32 → Int32 → Int32 → Int32 → Option (CD × Int32)) (D : CD) (x0 : Nat) (x1 : Int32) (x2 : Int32) (x3 : Int32) (x4 : Int32) (x5 : Int32) (x6 : Int32) (x7 : Int32) (x8 : Int32) (s0 : Int32) : Option (CD × Int32) := ckK S x0 6 <| cal (f_X6_leftOf F S D x0 x8) fun t3 => (if t3 = x4 then f_L_areFaces_b199 F S k113 k143 D x0 x1 x2 x3 x4 x6 x7 x8 s0 1 x5 else f_L_areFaces_b199 F S k113 k143 D x0 x1 x2 x3 x4 x6 x7 x8 s0 0 x5)
def f_L_areFaces_L143 (F : Nat) (S : CS) (k113 : CD → Nat → Int32 → Int32 → Int32 → Int32 → Option (CD × Int32)) : Nat → CD → Nat → Int32 → Int32 → Int32 → Int32 → Int32 → Int32 → Int32 → Int32 → Option (CD × Int32)
  | 0, _, _, _, _, _, _, _, _, _, _ => none
  | n143 + 1, D, x0, x1, x2, x3, x4, x5, x6, x7, x8 => ckK S x0 6 <| cal (f_X6_edges F S D x0) fun t3 => (if t3 ≤ x8 then (if x3 = 0 then f_L_areFaces_b335 F S k113 D x0 (x1 + x5) x4 x7 0 else cal (f_X6_sides F S D x0 x4) fun t7 => (if t7 = x5 then (if x4 = 0 then (if x7 = ((-1)) then f_L_areFaces_b335 F S k113 D x0 (x1 + x5) x4 x7 1 else f_L_areFaces_b335 F S k113 D x0 (x1 + x5) x4 x7 0) else (if x5 < 3 then f_L_areFaces_b335 F S k113 D x0 (x1 + x5) x4 x7 0 else (if x6 = 0 then f_L_areFaces_b335 F S k113 D x0 (x1 + x5) x4 x7 0 else (if x7 < x2 then f_L_areFaces_b335 F S k113 D x0 (x1 + x5) x4 x7 0 else f_L_areFaces_b335 F S k113 D x0 (x1 + x5) x4 x7 1)))) else f_L_areFaces_b335 F S k113 D x0 (x1 + x5) x4 x7 0)) else cal (f_X6_leftOf F S D x0 x8) fun t15 => (if t15 = x4 then f_L_areFaces_b179 F S k113 ((f_L_areFaces_L143 F S k113 n143)) D x0 x1 x2 x3 x4 x5 x6 x7 x8 1 else cal (f_X6_rightOf F S D x0 x8) fun t18 => (if t18 = x4 then f_L_areFaces_b179 F S k113 ((f_L_areFaces_L143 F S k113 n143)) D x0 x1 x2 x3 x4 x5 x6 x7 x8 1 else f_L_areFaces_b179 F S k113 ((f_L_areFaces_L143 F S k113 n143)) D x0 x1 x2 x3 x4 x5 x6 x7 x8 0)))
def f_L_areFaces_L113 (F : Nat) (S : CS) : Nat → CD → Nat → Int32 → Int32 → Int32 → Int32 → Option (CD × Int32)
  | 0, _, _, _, _, _, _ => none
  | n113 + 1, D, x0, x1, x2, x3, x4 => ckK S x0 6 <| cal (f_X6_faces F S D x0) fun t3 => (if t3 ≤ x4 then f_L_areFaces_b345 F S D x0 x1 x3 else (if x3 = 0 then f_L_areFaces_b345 F S D x0 x1 x3 else cal (f_X6_firstVertex F S D x0 x4) fun t7 => f_L_areFaces_L143 F S ((f_L_areFaces_L113 F S n113)) F D x0 x1 x2 x3 x4 0 0 t7 0))
def f_L_areFaces_b59 (F : Nat) (S : CS) (D : CD) (x0 : Nat) (x1 : Int32) (x2 : Int32) : Option (CD × Int32) := ckK S x0 6 <| cal (f_X6_faces F S D x0) fun t3 => caM (f_L_of F S D x0 11 t3) fun D5 t6 => (if t6 = ((-601)) then cal (f_X6_faces F S D5 x0) fun t9 => caM (f_L_of F S D5 x0 12 t9) fun D11 t12 => (if t12 = ((-601)) then caM (f_L_of F S D11 x0 11 ((-1))) fun D15 t16 => (if t16 = ((-601)) then f_L_areFaces_L113 F S F D15 x0 x1 x2 1 0 else f_L_areFaces_L113 F S F D15 x0 x1 x2 0 0) else f_L_areFaces_L113 F S F D11 x0 x1 x2 0 0) else f_L_areFaces_L113 F S F D5 x0 x1 x2 0 0)
def f_L_areFaces (F : Nat) (S : CS) (D : CD) (a1 : Nat) : Option (CD × Int32) := ckK S a1 6 <| cal (f_X6_faces F S D a1) fun t3 => cal (f_X6_edges F S D a1) fun t5 => cal (f_X6_vertices F S D a1) fun t7 => cal (f_X6_components F S D a1) fun t9 => (if t3 = (((t5 - t7) + t9) + 1) then cal (f_X6_components F S D a1) fun t12 => (if t12 < 0 then f_L_areFaces_L113 F S F D a1 0 ((-1)) 0 0 else cal (f_X6_components F S D a1) fun t15 => cal (f_X6_segments F S D a1) fun t17 => (if t17 < t15 then f_L_areFaces_L113 F S F D a1 0 ((-1)) 0 0 else cal (f_X6_segments F S D a1) fun t20 => (if t20 = 0 then f_L_areFaces_b59 F S D a1 0 ((-1)) else cal (f_X6_components F S D a1) fun t23 => (if t23 ≤ 0 then f_L_areFaces_L113 F S F D a1 0 ((-1)) 0 0 else f_L_areFaces_b59 F S D a1 0 ((-1)))))) else f_L_areFaces_L113 F S F D a1 0 ((-1)) 0 0)
set_option maxRecDepth 100000 in
set_option maxHeartbeats 4000000 in
theorem m_L_areFaces (l : Launch) (hfl : l.stackTraces = false) (G : cG) (F : Nat) (S : CS) (z9 : Nat × Nat) (D D2 : CD) (a1 : Nat) (r : Int32) (h : f_L_areFaces F S D a1 = some (D2, r)) : lMI l yL_areFaces wL_areFaces ({ frames := 11, cells := 3, slots := 18, locals := 430 }) G S z9 [.ref a1] D D2 r 3 18 := by
  refine lBody (cc := cL_areFaces) (maxL := 10) (ret := (some .boolean)) (by decide) rfl rfl ?_
  intro sz p e s m below meth c hC hv
  have hC0 := hC
  obtain ⟨hx, hb, -, hts, hown, -, hml, -, -, -⟩ := hC0
  have hP := hv.1.1.2.1
  have hv := lPr_of hv
  have hS : va_S (cA G S sz) s.heap s.heap [] := va_S.rf
  have b345 : ∀ (H : Heap) (locs : List Loc) (ls : Array Slot) (D : CD) (x0 : Nat) (x1 : Int32) (x3 : Int32), va_P G.1 vwCl (cW G S D) H → va_S (cA G S sz) s.heap H locs → lv_has ls 10 [(0, .ref x0), (1, .int x1), (3, .int x3)] → f_L_areFaces_b345 F S D x0 x1 x3 = some (D2, r) → W p l e (headSpec wL_areFaces ({ frames := 11, cells := 3, slots := 18, locals := 430 })).room s m ([.ref a1] : List Value).toArray below meth c H locs 3 18 (lQI below G S D2 sz ([.ref a1] : List Value).toArray s r 3 18) (F0 m 345 ls []) := by
    intro H locs ls D x0 x1 x3 hP hS hl h
    unfold f_L_areFaces_b345 at h
    refine lv_iload_n hx hb dL_areFaces_345 rfl (lv_at hl 2 rfl) ?_
    refine lv_if_eq (tgt := 363) hx hb dL_areFaces_346 (by decide) (fun u1 => ?_) (fun u1 => ?_)
    · have h := ite_t u1 h
      refine lv_iconst (v := 0) hx hb dL_areFaces_363 (by decide) ?_
      obtain ⟨z2, h⟩ := okB_el h
      cases h
      exact g_zret hC hP hS z2 rfl (Nat.le_of_ble_eq_true rfl) (Nat.le_of_ble_eq_true rfl) dL_areFaces_364
    · have h := ite_f u1 h
      refine lv_iload_n hx hb dL_areFaces_349 rfl (lv_at hl 1 rfl) ?_
      refine lv_iconst (v := 2) hx hb dL_areFaces_350 (by decide) ?_
      refine lv_aload_n hx hb dL_areFaces_351 rfl (lv_at hl 0 rfl) ?_
      obtain ⟨z3, h⟩ := ckK_el h
      obtain ⟨t5, e4, h⟩ := cal_el h
      refine g_VI (As := []) (rest := [.int 2, .int x1]) hC hP hS z3.1 (cE_6 z3.2) (C := RX6) (T := TX6) (N := 8) rfl (m_X6_edges l G F S D x0 t5 e4) (cwV 0 hts (gVA wa_226 wa_227 wa_228 (hWCA _ wc_66) (hWCA _ wc_75) hWCA) rfl rfl rfl (by decide +kernel) ⟨Nat.le_of_ble_eq_true rfl, Nat.le_of_ble_eq_true rfl⟩) rfl hl.1 rfl (Nat.le_of_ble_eq_true rfl) dL_areFaces_352 ⟨Nat.le_of_ble_eq_true rfl, Nat.le_of_ble_eq_true rfl⟩ (fun H locs hP hS => ?_)
      refine lv_imul hx hb dL_areFaces_355 ?_
      refine lv_icmp_ne (tgt := 363) hx hb dL_areFaces_356 (by decide) (fun u6 => ?_) (fun u6 => ?_)
      · have h := ite_f u6 h
        refine lv_iconst (v := 0) hx hb dL_areFaces_363 (by decide) ?_
        obtain ⟨z7, h⟩ := okB_el h
        cases h
        exact g_zret hC hP hS z7 rfl (Nat.le_of_ble_eq_true rfl) (Nat.le_of_ble_eq_true rfl) dL_areFaces_364
      · have h := ite_t u6 h
        refine lv_iconst (v := 1) hx hb dL_areFaces_359 (by decide) ?_
        refine lv_goto (tgt := 364) hx hb dL_areFaces_360 (by decide) ?_
        obtain ⟨z8, h⟩ := okB_el h
        cases h
        exact g_zret hC hP hS z8 rfl (Nat.le_of_ble_eq_true rfl) (Nat.le_of_ble_eq_true rfl) dL_areFaces_364
  have L113 : ∀ (n113 : Nat) (H : Heap) (locs : List Loc) (ls : Array Slot) (D : CD) (x0 : Nat) (x1 : Int32) (x2 : Int32) (x3 : Int32) (x4 : Int32), va_P G.1 vwCl (cW G S D) H → va_S (cA G S sz) s.heap H locs → lv_has ls 10 [(0, .ref x0), (1, .int x1), (2, .int x2), (3, .int x3), (4, .int x4)] → f_L_areFaces_L113 F S n113 D x0 x1 x2 x3 x4 = some (D2, r) → W p l e (headSpec wL_areFaces ({ frames := 11, cells := 3, slots := 18, locals := 430 })).room s m ([.ref a1] : List Value).toArray below meth c H locs 3 18 (lQI below G S D2 sz ([.ref a1] : List Value).toArray s r 3 18) (F0 m 113 ls []) := by
    intro n113
    induction n113 with
    | zero =>
      intro H locs ls D x0 x1 x2 x3 x4 hP hS hl h
      rw [f_L_areFaces_L113] at h; cases h
    | succ n113 ih113 =>
      have b335 : ∀ (H : Heap) (locs : List Loc) (ls : Array Slot) (D : CD) (x0 : Nat) (x1 : Int32) (x4 : Int32) (x7 : Int32) (s0 : Int32), va_P G.1 vwCl (cW G S D) H → va_S (cA G S sz) s.heap H locs → lv_has ls 10 [(0, .ref x0), (1, .int x1), (4, .int x4), (7, .int x7)] → f_L_areFaces_b335 F S ((f_L_areFaces_L113 F S n113)) D x0 x1 x4 x7 s0 = some (D2, r) → W p l e (headSpec wL_areFaces ({ frames := 11, cells := 3, slots := 18, locals := 430 })).room s m ([.ref a1] : List Value).toArray below meth c H locs 3 18 (lQI below G S D2 sz ([.ref a1] : List Value).toArray s r 3 18) (F0 m 335 ls [.int s0]) := by
        intro H locs ls D x0 x1 x4 x7 s0 hP hS hl h
        unfold f_L_areFaces_b335 at h
        refine lv_istore_n (lv' := [(3, .int s0), (0, .ref x0), (1, .int x1), (4, .int x4), (7, .int x7)]) hx hb dL_areFaces_335 rfl hl (by decide) rfl (fun ls hl => ?_)
        refine lv_iload hx hb dL_areFaces_336 (lv_at hl 4 rfl) ?_
        refine lv_istore_n (lv' := [(2, .int x7), (3, .int s0), (0, .ref x0), (1, .int x1), (4, .int x4), (7, .int x7)]) hx hb dL_areFaces_338 rfl hl (by decide) rfl (fun ls hl => ?_)
        refine lv_iinc (v := x4 + 1) (lv' := [(4, .int (x4 + 1)), (2, .int x7), (3, .int s0), (0, .ref x0), (1, .int x1), (7, .int x7)]) hx hb dL_areFaces_339 hl (k := 4) rfl rfl (by decide) rfl (fun ls hl => ?_)
        refine lv_goto (tgt := 113) hx hb dL_areFaces_342 (by decide) ?_
        refine W.widen (k := 3) (n := 18) (Nat.le_of_ble_eq_true rfl) (Nat.le_of_ble_eq_true rfl) ?_
        exact ih113 _ _ _ D x0 x1 x7 s0 (x4 + 1) hP hS (lv_sub hl [3, 4, 1, 2, 0] rfl) h
      have L143 : ∀ (n143 : Nat) (H : Heap) (locs : List Loc) (ls : Array Slot) (D : CD) (x0 : Nat) (x1 : Int32) (x2 : Int32) (x3 : Int32) (x4 : Int32) (x5 : Int32) (x6 : Int32) (x7 : Int32) (x8 : Int32), va_P G.1 vwCl (cW G S D) H → va_S (cA G S sz) s.heap H locs → lv_has ls 10 [(0, .ref x0), (1, .int x1), (2, .int x2), (3, .int x3), (4, .int x4), (5, .int x5), (6, .int x6), (7, .int x7), (8, .int x8)] → f_L_areFaces_L143 F S ((f_L_areFaces_L113 F S n113)) n143 D x0 x1 x2 x3 x4 x5 x6 x7 x8 = some (D2, r) → W p l e (headSpec wL_areFaces ({ frames := 11, cells := 3, slots := 18, locals := 430 })).room s m ([.ref a1] : List Value).toArray below meth c H locs 3 18 (lQI below G S D2 sz ([.ref a1] : List Value).toArray s r 3 18) (F0 m 143 ls []) := by
        intro n143
        induction n143 with
        | zero =>
          intro H locs ls D x0 x1 x2 x3 x4 x5 x6 x7 x8 hP hS hl h
          rw [f_L_areFaces_L143] at h; cases h
        | succ n143 ih143 =>
          have b272 : ∀ (H : Heap) (locs : List Loc) (ls : Array Slot) (D : CD) (x0 : Nat) (x1 : Int32) (x2 : Int32) (x4 : Int32) (x5 : Int32) (x6 : Int32) (x7 : Int32) (x8 : Int32) (s0 : Int32), va_P G.1 vwCl (cW G S D) H → va_S (cA G S sz) s.heap H locs → lv_has ls 10 [(0, .ref x0), (1, .int x1), (2, .int x2), (4, .int x4), (5, .int x5), (6, .int x6), (7, .int x7), (8, .int x8)] → f_L_areFaces_b272 F S ((f_L_areFaces_L113 F S n113)) ((f_L_areFaces_L143 F S ((f_L_areFaces_L113 F S n113)) n143)) D x0 x1 x2 x4 x5 x6 x7 x8 s0 = some (D2, r) → W p l e (headSpec wL_areFaces ({ frames := 11, cells := 3, slots := 18, locals := 430 })).room s m ([.ref a1] : List Value).toArray below meth c H locs 3 18 (lQI below G S D2 sz ([.ref a1] : List Value).toArray s r 3 18) (F0 m 272 ls [.int s0]) := by
            intro H locs ls D x0 x1 x2 x4 x5 x6 x7 x8 s0 hP hS hl h
            unfold f_L_areFaces_b272 at h
            refine lv_istore_n (lv' := [(3, .int s0), (0, .ref x0), (1, .int x1), (2, .int x2), (4, .int x4), (5, .int x5), (6, .int x6), (7, .int x7), (8, .int x8)]) hx hb dL_areFaces_272 rfl hl (by decide) rfl (fun ls hl => ?_)
            refine lv_iinc (v := x8 + 1) (lv' := [(8, .int (x8 + 1)), (3, .int s0), (0, .ref x0), (1, .int x1), (2, .int x2), (4, .int x4), (5, .int x5), (6, .int x6), (7, .int x7)]) hx hb dL_areFaces_273 hl (k := 8) rfl rfl (by decide) rfl (fun ls hl => ?_)
            refine lv_goto (tgt := 143) hx hb dL_areFaces_276 (by decide) ?_
            refine W.widen (k := 3) (n := 18) (Nat.le_of_ble_eq_true rfl) (Nat.le_of_ble_eq_true rfl) ?_
            exact ih143 _ _ _ D x0 x1 x2 s0 x4 x5 x6 x7 (x8 + 1) hP hS (lv_sub hl [2, 3, 4, 1, 5, 6, 7, 8, 0] rfl) h
          have b245 : ∀ (H : Heap) (locs : List Loc) (ls : Array Slot) (D : CD) (x0 : Nat) (x1 : Int32) (x2 : Int32) (x3 : Int32) (x4 : Int32) (x5 : Int32) (x7 : Int32) (x8 : Int32) (x9 : Int32) (s0 : Int32), va_P G.1 vwCl (cW G S D) H → va_S (cA G S sz) s.heap H locs → lv_has ls 10 [(0, .ref x0), (1, .int x1), (2, .int x2), (3, .int x3), (4, .int x4), (5, .int x5), (7, .int x7), (8, .int x8), (9, .int x9)] → f_L_areFaces_b245 F S ((f_L_areFaces_L113 F S n113)) ((f_L_areFaces_L143 F S ((f_L_areFaces_L113 F S n113)) n143)) D x0 x1 x2 x3 x4 x5 x7 x8 x9 s0 = some (D2, r) → W p l e (headSpec wL_areFaces ({ frames := 11, cells := 3, slots := 18, locals := 430 })).room s m ([.ref a1] : List Value).toArray below meth c H locs 3 18 (lQI below G S D2 sz ([.ref a1] : List Value).toArray s r 3 18) (F0 m 245 ls [.int s0]) := by
            intro H locs ls D x0 x1 x2 x3 x4 x5 x7 x8 x9 s0 hP hS hl h
            unfold f_L_areFaces_b245 at h
            refine lv_istore (lv' := [(6, .int s0), (0, .ref x0), (1, .int x1), (2, .int x2), (3, .int x3), (4, .int x4), (5, .int x5), (7, .int x7), (8, .int x8), (9, .int x9)]) hx hb dL_areFaces_245 hl (by decide) rfl (fun ls hl => ?_)
            refine lv_iload_n hx hb dL_areFaces_247 rfl (lv_at hl 4 rfl) ?_
            refine lv_if_eq (tgt := 271) hx hb dL_areFaces_248 (by decide) (fun u1 => ?_) (fun u1 => ?_)
            · have h := ite_t u1 h
              refine lv_iconst (v := 0) hx hb dL_areFaces_271 (by decide) ?_
              refine W.widen (k := 3) (n := 18) (Nat.le_of_ble_eq_true rfl) (Nat.le_of_ble_eq_true rfl) ?_
              exact b272 _ _ _ D x0 x1 x2 x4 x5 s0 x7 x8 0 hP hS (lv_sub hl [1, 2, 3, 5, 6, 0, 7, 8] rfl) h
            · have h := ite_f u1 h
              refine lv_iload hx hb dL_areFaces_251 (lv_at hl 9 rfl) ?_
              refine lv_if_eq (tgt := 267) hx hb dL_areFaces_253 (by decide) (fun u2 => ?_) (fun u2 => ?_)
              · have h := ite_t u2 h
                refine lv_iconst (v := 1) hx hb dL_areFaces_267 (by decide) ?_
                refine lv_goto (tgt := 272) hx hb dL_areFaces_268 (by decide) ?_
                refine W.widen (k := 3) (n := 18) (Nat.le_of_ble_eq_true rfl) (Nat.le_of_ble_eq_true rfl) ?_
                exact b272 _ _ _ D x0 x1 x2 x4 x5 s0 x7 x8 1 hP hS (lv_sub hl [1, 2, 3, 5, 6, 0, 7, 8] rfl) h
              · have h := ite_f u2 h
                refine lv_aload_n hx hb dL_areFaces_256 rfl (lv_at hl 1 rfl) ?_
                refine lv_iload hx hb dL_areFaces_257 (lv_at hl 8 rfl) ?_
                obtain ⟨z3, h⟩ := ckK_el h
                obtain ⟨t5, e4, h⟩ := cal_el h
                refine g_VI (As := [.int x8]) (rest := []) hC hP hS z3.1 (cE_6 z3.2) (C := RX6) (T := TX6) (N := 8) rfl (m_X6_from l G F S D x0 x8 t5 e4) (cwV 1 hts (gVA wa_170 wa_171 wa_172 (hWCA _ wc_66) (hWCA _ wc_108) hWCA) rfl rfl rfl (by decide +kernel) ⟨Nat.le_of_ble_eq_true rfl, Nat.le_of_ble_eq_true rfl⟩) rfl hl.1 rfl (Nat.le_of_ble_eq_true rfl) dL_areFaces_259 ⟨Nat.le_of_ble_eq_true rfl, Nat.le_of_ble_eq_true rfl⟩ (fun H locs hP hS => ?_)
                refine lv_iload hx hb dL_areFaces_262 (lv_at hl 7 rfl) ?_
                refine lv_icmp_lt (tgt := 271) hx hb dL_areFaces_264 (by decide) (fun u6 => ?_) (fun u6 => ?_)
                · have h := ite_t u6 h
                  refine lv_iconst (v := 0) hx hb dL_areFaces_271 (by decide) ?_
                  refine W.widen (k := 3) (n := 18) (Nat.le_of_ble_eq_true rfl) (Nat.le_of_ble_eq_true rfl) ?_
                  exact b272 _ _ _ D x0 x1 x2 x4 x5 s0 x7 x8 0 hP hS (lv_sub hl [1, 2, 3, 5, 6, 0, 7, 8] rfl) h
                · have h := ite_f u6 h
                  refine lv_iconst (v := 1) hx hb dL_areFaces_267 (by decide) ?_
                  refine lv_goto (tgt := 272) hx hb dL_areFaces_268 (by decide) ?_
                  refine W.widen (k := 3) (n := 18) (Nat.le_of_ble_eq_true rfl) (Nat.le_of_ble_eq_true rfl) ?_
                  exact b272 _ _ _ D x0 x1 x2 x4 x5 s0 x7 x8 1 hP hS (lv_sub hl [1, 2, 3, 5, 6, 0, 7, 8] rfl) h
          have b215 : ∀ (H : Heap) (locs : List Loc) (ls : Array Slot) (D : CD) (x0 : Nat) (x1 : Int32) (x2 : Int32) (x3 : Int32) (x4 : Int32) (x6 : Int32) (x7 : Int32) (x8 : Int32) (x9 : Int32) (s0 : Int32) (s1 : Int32) (s2 : Int32), va_P G.1 vwCl (cW G S D) H → va_S (cA G S sz) s.heap H locs → lv_has ls 10 [(0, .ref x0), (1, .int x1), (2, .int x2), (3, .int x3), (4, .int x4), (6, .int x6), (7, .int x7), (8, .int x8), (9, .int x9)] → f_L_areFaces_b215 F S ((f_L_areFaces_L113 F S n113)) ((f_L_areFaces_L143 F S ((f_L_areFaces_L113 F S n113)) n143)) D x0 x1 x2 x3 x4 x6 x7 x8 x9 s0 s1 s2 = some (D2, r) → W p l e (headSpec wL_areFaces ({ frames := 11, cells := 3, slots := 18, locals := 430 })).room s m ([.ref a1] : List Value).toArray below meth c H locs 3 18 (lQI below G S D2 sz ([.ref a1] : List Value).toArray s r 3 18) (F0 m 215 ls [.int s0, .int s1, .int s2]) := by
            intro H locs ls D x0 x1 x2 x3 x4 x6 x7 x8 x9 s0 s1 s2 hP hS hl h
            unfold f_L_areFaces_b215 at h
            refine lv_iadd hx hb dL_areFaces_215 ?_
            refine lv_iadd hx hb dL_areFaces_216 ?_
            refine lv_istore (lv' := [(5, .int (s2 + (s1 + s0))), (0, .ref x0), (1, .int x1), (2, .int x2), (3, .int x3), (4, .int x4), (6, .int x6), (7, .int x7), (8, .int x8), (9, .int x9)]) hx hb dL_areFaces_217 hl (by decide) rfl (fun ls hl => ?_)
            refine lv_iload hx hb dL_areFaces_219 (lv_at hl 6 rfl) ?_
            refine lv_if_ne (tgt := 240) hx hb dL_areFaces_221 (by decide) (fun u1 => ?_) (fun u1 => ?_)
            · have h := ite_f u1 h
              refine lv_iconst (v := 1) hx hb dL_areFaces_240 (by decide) ?_
              refine lv_goto (tgt := 245) hx hb dL_areFaces_241 (by decide) ?_
              refine W.widen (k := 3) (n := 18) (Nat.le_of_ble_eq_true rfl) (Nat.le_of_ble_eq_true rfl) ?_
              exact b245 _ _ _ D x0 x1 x2 x3 x4 (s2 + (s1 + s0)) x7 x8 x9 1 hP hS (lv_sub hl [1, 2, 3, 4, 5, 0, 7, 8, 9] rfl) h
            · have h := ite_t u1 h
              refine lv_iload hx hb dL_areFaces_224 (lv_at hl 9 rfl) ?_
              refine lv_if_eq (tgt := 244) hx hb dL_areFaces_226 (by decide) (fun u2 => ?_) (fun u2 => ?_)
              · have h := ite_t u2 h
                refine lv_iconst (v := 0) hx hb dL_areFaces_244 (by decide) ?_
                refine W.widen (k := 3) (n := 18) (Nat.le_of_ble_eq_true rfl) (Nat.le_of_ble_eq_true rfl) ?_
                exact b245 _ _ _ D x0 x1 x2 x3 x4 (s2 + (s1 + s0)) x7 x8 x9 0 hP hS (lv_sub hl [1, 2, 3, 4, 5, 0, 7, 8, 9] rfl) h
              · have h := ite_f u2 h
                refine lv_aload_n hx hb dL_areFaces_229 rfl (lv_at hl 1 rfl) ?_
                refine lv_iload hx hb dL_areFaces_230 (lv_at hl 8 rfl) ?_
                obtain ⟨z3, h⟩ := ckK_el h
                obtain ⟨t5, e4, h⟩ := cal_el h
                refine g_VI (As := [.int x8]) (rest := []) hC hP hS z3.1 (cE_6 z3.2) (C := RX6) (T := TX6) (N := 8) rfl (m_X6_from l G F S D x0 x8 t5 e4) (cwV 1 hts (gVA wa_170 wa_171 wa_172 (hWCA _ wc_66) (hWCA _ wc_108) hWCA) rfl rfl rfl (by decide +kernel) ⟨Nat.le_of_ble_eq_true rfl, Nat.le_of_ble_eq_true rfl⟩) rfl hl.1 rfl (Nat.le_of_ble_eq_true rfl) dL_areFaces_232 ⟨Nat.le_of_ble_eq_true rfl, Nat.le_of_ble_eq_true rfl⟩ (fun H locs hP hS => ?_)
                refine lv_iload hx hb dL_areFaces_235 (lv_at hl 7 rfl) ?_
                refine lv_icmp_ne (tgt := 244) hx hb dL_areFaces_237 (by decide) (fun u6 => ?_) (fun u6 => ?_)
                · have h := ite_f u6 h
                  refine lv_iconst (v := 0) hx hb dL_areFaces_244 (by decide) ?_
                  refine W.widen (k := 3) (n := 18) (Nat.le_of_ble_eq_true rfl) (Nat.le_of_ble_eq_true rfl) ?_
                  exact b245 _ _ _ D x0 x1 x2 x3 x4 (s2 + (s1 + s0)) x7 x8 x9 0 hP hS (lv_sub hl [1, 2, 3, 4, 5, 0, 7, 8, 9] rfl) h
                · have h := ite_t u6 h
                  refine lv_iconst (v := 1) hx hb dL_areFaces_240 (by decide) ?_
                  refine lv_goto (tgt := 245) hx hb dL_areFaces_241 (by decide) ?_
                  refine W.widen (k := 3) (n := 18) (Nat.le_of_ble_eq_true rfl) (Nat.le_of_ble_eq_true rfl) ?_
                  exact b245 _ _ _ D x0 x1 x2 x3 x4 (s2 + (s1 + s0)) x7 x8 x9 1 hP hS (lv_sub hl [1, 2, 3, 4, 5, 0, 7, 8, 9] rfl) h
          have b199 : ∀ (H : Heap) (locs : List Loc) (ls : Array Slot) (D : CD) (x0 : Nat) (x1 : Int32) (x2 : Int32) (x3 : Int32) (x4 : Int32) (x6 : Int32) (x7 : Int32) (x8 : Int32) (x9 : Int32) (s0 : Int32) (s1 : Int32), va_P G.1 vwCl (cW G S D) H → va_S (cA G S sz) s.heap H locs → lv_has ls 10 [(0, .ref x0), (1, .int x1), (2, .int x2), (3, .int x3), (4, .int x4), (6, .int x6), (7, .int x7), (8, .int x8), (9, .int x9)] → f_L_areFaces_b199 F S ((f_L_areFaces_L113 F S n113)) ((f_L_areFaces_L143 F S ((f_L_areFaces_L113 F S n113)) n143)) D x0 x1 x2 x3 x4 x6 x7 x8 x9 s0 s1 = some (D2, r) → W p l e (headSpec wL_areFaces ({ frames := 11, cells := 3, slots := 18, locals := 430 })).room s m ([.ref a1] : List Value).toArray below meth c H locs 3 18 (lQI below G S D2 sz ([.ref a1] : List Value).toArray s r 3 18) (F0 m 199 ls [.int s0, .int s1]) := by
            intro H locs ls D x0 x1 x2 x3 x4 x6 x7 x8 x9 s0 s1 hP hS hl h
            unfold f_L_areFaces_b199 at h
            refine lv_aload_n hx hb dL_areFaces_199 rfl (lv_at hl 0 rfl) ?_
            refine lv_iload hx hb dL_areFaces_200 (lv_at hl 7 rfl) ?_
            obtain ⟨z1, h⟩ := ckK_el h
            obtain ⟨t3, e2, h⟩ := cal_el h
            refine g_VI (As := [.int x8]) (rest := [.int s0, .int s1]) hC hP hS z1.1 (cE_6 z1.2) (C := RX6) (T := TX6) (N := 8) rfl (m_X6_rightOf l G F S D x0 x8 t3 e2) (cwV 1 hts (gVA wa_179 wa_180 wa_181 (hWCA _ wc_66) (hWCA _ wc_111) hWCA) rfl rfl rfl (by decide +kernel) ⟨Nat.le_of_ble_eq_true rfl, Nat.le_of_ble_eq_true rfl⟩) rfl hl.1 rfl (Nat.le_of_ble_eq_true rfl) dL_areFaces_202 ⟨Nat.le_of_ble_eq_true rfl, Nat.le_of_ble_eq_true rfl⟩ (fun H locs hP hS => ?_)
            refine lv_iload hx hb dL_areFaces_205 (lv_at hl 4 rfl) ?_
            refine lv_icmp_ne (tgt := 214) hx hb dL_areFaces_207 (by decide) (fun u4 => ?_) (fun u4 => ?_)
            · have h := ite_f u4 h
              refine lv_iconst (v := 0) hx hb dL_areFaces_214 (by decide) ?_
              refine W.widen (k := 3) (n := 18) (Nat.le_of_ble_eq_true rfl) (Nat.le_of_ble_eq_true rfl) ?_
              exact b215 _ _ _ D x0 x1 x2 x3 x4 x6 x7 x8 x9 0 s0 s1 hP hS (lv_sub hl [0, 1, 2, 3, 4, 5, 6, 7, 8] rfl) h
            · have h := ite_t u4 h
              refine lv_iconst (v := 1) hx hb dL_areFaces_210 (by decide) ?_
              refine lv_goto (tgt := 215) hx hb dL_areFaces_211 (by decide) ?_
              refine W.widen (k := 3) (n := 18) (Nat.le_of_ble_eq_true rfl) (Nat.le_of_ble_eq_true rfl) ?_
              exact b215 _ _ _ D x0 x1 x2 x3 x4 x6 x7 x8 x9 1 s0 s1 hP hS (lv_sub hl [0, 1, 2, 3, 4, 5, 6, 7, 8] rfl) h
          have b179 : ∀ (H : Heap) (locs : List Loc) (ls : Array Slot) (D : CD) (x0 : Nat) (x1 : Int32) (x2 : Int32) (x3 : Int32) (x4 : Int32) (x5 : Int32) (x6 : Int32) (x7 : Int32) (x8 : Int32) (s0 : Int32), va_P G.1 vwCl (cW G S D) H → va_S (cA G S sz) s.heap H locs → lv_has ls 10 [(0, .ref x0), (1, .int x1), (2, .int x2), (3, .int x3), (4, .int x4), (5, .int x5), (6, .int x6), (7, .int x7), (8, .int x8)] → f_L_areFaces_b179 F S ((f_L_areFaces_L113 F S n113)) ((f_L_areFaces_L143 F S ((f_L_areFaces_L113 F S n113)) n143)) D x0 x1 x2 x3 x4 x5 x6 x7 x8 s0 = some (D2, r) → W p l e (headSpec wL_areFaces ({ frames := 11, cells := 3, slots := 18, locals := 430 })).room s m ([.ref a1] : List Value).toArray below meth c H locs 3 18 (lQI below G S D2 sz ([.ref a1] : List Value).toArray s r 3 18) (F0 m 179 ls [.int s0]) := by
            intro H locs ls D x0 x1 x2 x3 x4 x5 x6 x7 x8 s0 hP hS hl h
            unfold f_L_areFaces_b179 at h
            refine lv_istore (lv' := [(9, .int s0), (0, .ref x0), (1, .int x1), (2, .int x2), (3, .int x3), (4, .int x4), (5, .int x5), (6, .int x6), (7, .int x7), (8, .int x8)]) hx hb dL_areFaces_179 hl (by decide) rfl (fun ls hl => ?_)
            refine lv_iload hx hb dL_areFaces_181 (lv_at hl 6 rfl) ?_
            refine lv_aload_n hx hb dL_areFaces_183 rfl (lv_at hl 1 rfl) ?_
            refine lv_iload hx hb dL_areFaces_184 (lv_at hl 9 rfl) ?_
            obtain ⟨z1, h⟩ := ckK_el h
            obtain ⟨t3, e2, h⟩ := cal_el h
            refine g_VI (As := [.int x8]) (rest := [.int x5]) hC hP hS z1.1 (cE_6 z1.2) (C := RX6) (T := TX6) (N := 8) rfl (m_X6_leftOf l G F S D x0 x8 t3 e2) (cwV 1 hts (gVA wa_176 wa_177 wa_178 (hWCA _ wc_66) (hWCA _ wc_110) hWCA) rfl rfl rfl (by decide +kernel) ⟨Nat.le_of_ble_eq_true rfl, Nat.le_of_ble_eq_true rfl⟩) rfl hl.1 rfl (Nat.le_of_ble_eq_true rfl) dL_areFaces_186 ⟨Nat.le_of_ble_eq_true rfl, Nat.le_of_ble_eq_true rfl⟩ (fun H locs hP hS => ?_)
            refine lv_iload hx hb dL_areFaces_189 (lv_at hl 5 rfl) ?_
            refine lv_icmp_ne (tgt := 198) hx hb dL_areFaces_191 (by decide) (fun u4 => ?_) (fun u4 => ?_)
            · have h := ite_f u4 h
              refine lv_iconst (v := 0) hx hb dL_areFaces_198 (by decide) ?_
              refine W.widen (k := 3) (n := 18) (Nat.le_of_ble_eq_true rfl) (Nat.le_of_ble_eq_true rfl) ?_
              exact b199 _ _ _ D x0 x1 x2 x3 x4 x6 x7 x8 s0 0 x5 hP hS (lv_sub hl [1, 2, 3, 4, 5, 7, 8, 9, 0] rfl) h
            · have h := ite_t u4 h
              refine lv_iconst (v := 1) hx hb dL_areFaces_194 (by decide) ?_
              refine lv_goto (tgt := 199) hx hb dL_areFaces_195 (by decide) ?_
              refine W.widen (k := 3) (n := 18) (Nat.le_of_ble_eq_true rfl) (Nat.le_of_ble_eq_true rfl) ?_
              exact b199 _ _ _ D x0 x1 x2 x3 x4 x6 x7 x8 s0 1 x5 hP hS (lv_sub hl [1, 2, 3, 4, 5, 7, 8, 9, 0] rfl) h
          intro H locs ls D x0 x1 x2 x3 x4 x5 x6 x7 x8 hP hS hl h
          rw [f_L_areFaces_L143] at h
          refine lv_iload hx hb dL_areFaces_143 (lv_at hl 8 rfl) ?_
          refine lv_aload_n hx hb dL_areFaces_145 rfl (lv_at hl 0 rfl) ?_
          obtain ⟨z1, h⟩ := ckK_el h
          obtain ⟨t3, e2, h⟩ := cal_el h
          refine g_VI (As := []) (rest := [.int x8]) hC hP hS z1.1 (cE_6 z1.2) (C := RX6) (T := TX6) (N := 8) rfl (m_X6_edges l G F S D x0 t3 e2) (cwV 0 hts (gVA wa_226 wa_227 wa_228 (hWCA _ wc_66) (hWCA _ wc_75) hWCA) rfl rfl rfl (by decide +kernel) ⟨Nat.le_of_ble_eq_true rfl, Nat.le_of_ble_eq_true rfl⟩) rfl hl.1 rfl (Nat.le_of_ble_eq_true rfl) dL_areFaces_146 ⟨Nat.le_of_ble_eq_true rfl, Nat.le_of_ble_eq_true rfl⟩ (fun H locs hP hS => ?_)
          refine lv_icmp_ge (tgt := 279) hx hb dL_areFaces_149 (by decide) (fun u4 => ?_) (fun u4 => ?_)
          · have h := ite_t u4 h
            refine lv_iload_n hx hb dL_areFaces_279 rfl (lv_at hl 1 rfl) ?_
            refine lv_iload hx hb dL_areFaces_280 (lv_at hl 5 rfl) ?_
            refine lv_iadd hx hb dL_areFaces_282 ?_
            refine lv_istore_n (lv' := [(1, .int (x1 + x5)), (0, .ref x0), (2, .int x2), (3, .int x3), (4, .int x4), (5, .int x5), (6, .int x6), (7, .int x7), (8, .int x8)]) hx hb dL_areFaces_283 rfl hl (by decide) rfl (fun ls hl => ?_)
            refine lv_iload_n hx hb dL_areFaces_284 rfl (lv_at hl 3 rfl) ?_
            refine lv_if_eq (tgt := 334) hx hb dL_areFaces_285 (by decide) (fun u5 => ?_) (fun u5 => ?_)
            · have h := ite_t u5 h
              refine lv_iconst (v := 0) hx hb dL_areFaces_334 (by decide) ?_
              refine W.widen (k := 3) (n := 18) (Nat.le_of_ble_eq_true rfl) (Nat.le_of_ble_eq_true rfl) ?_
              exact b335 _ _ _ D x0 (x1 + x5) x4 x7 0 hP hS (lv_sub hl [1, 0, 4, 7] rfl) h
            · have h := ite_f u5 h
              refine lv_aload_n hx hb dL_areFaces_288 rfl (lv_at hl 1 rfl) ?_
              refine lv_iload hx hb dL_areFaces_289 (lv_at hl 4 rfl) ?_
              obtain ⟨t7, e6, h⟩ := cal_el h
              refine g_VI (As := [.int x4]) (rest := []) hC hP hS z1.1 (cE_6 z1.2) (C := RX6) (T := TX6) (N := 8) rfl (m_X6_sides l G F S D x0 x4 t7 e6) (cwV 1 hts (gVA wa_182 wa_183 wa_184 (hWCA _ wc_66) (hWCA _ wc_113) hWCA) rfl rfl rfl (by decide +kernel) ⟨Nat.le_of_ble_eq_true rfl, Nat.le_of_ble_eq_true rfl⟩) rfl hl.1 rfl (Nat.le_of_ble_eq_true rfl) dL_areFaces_291 ⟨Nat.le_of_ble_eq_true rfl, Nat.le_of_ble_eq_true rfl⟩ (fun H locs hP hS => ?_)
              refine lv_iload hx hb dL_areFaces_294 (lv_at hl 5 rfl) ?_
              refine lv_icmp_ne (tgt := 334) hx hb dL_areFaces_296 (by decide) (fun u8 => ?_) (fun u8 => ?_)
              · have h := ite_f u8 h
                refine lv_iconst (v := 0) hx hb dL_areFaces_334 (by decide) ?_
                refine W.widen (k := 3) (n := 18) (Nat.le_of_ble_eq_true rfl) (Nat.le_of_ble_eq_true rfl) ?_
                exact b335 _ _ _ D x0 (x1 + x5) x4 x7 0 hP hS (lv_sub hl [1, 0, 4, 7] rfl) h
              · have h := ite_t u8 h
                refine lv_iload hx hb dL_areFaces_299 (lv_at hl 4 rfl) ?_
                refine lv_if_ne (tgt := 313) hx hb dL_areFaces_301 (by decide) (fun u9 => ?_) (fun u9 => ?_)
                · have h := ite_f u9 h
                  refine lv_iload hx hb dL_areFaces_313 (lv_at hl 5 rfl) ?_
                  refine lv_iconst (v := 3) hx hb dL_areFaces_315 (by decide) ?_
                  refine lv_icmp_lt (tgt := 334) hx hb dL_areFaces_316 (by decide) (fun u10 => ?_) (fun u10 => ?_)
                  · have h := ite_t u10 h
                    refine lv_iconst (v := 0) hx hb dL_areFaces_334 (by decide) ?_
                    refine W.widen (k := 3) (n := 18) (Nat.le_of_ble_eq_true rfl) (Nat.le_of_ble_eq_true rfl) ?_
                    exact b335 _ _ _ D x0 (x1 + x5) x4 x7 0 hP hS (lv_sub hl [1, 0, 4, 7] rfl) h
                  · have h := ite_f u10 h
                    refine lv_iload hx hb dL_areFaces_319 (lv_at hl 6 rfl) ?_
                    refine lv_if_eq (tgt := 334) hx hb dL_areFaces_321 (by decide) (fun u11 => ?_) (fun u11 => ?_)
                    · have h := ite_t u11 h
                      refine lv_iconst (v := 0) hx hb dL_areFaces_334 (by decide) ?_
                      refine W.widen (k := 3) (n := 18) (Nat.le_of_ble_eq_true rfl) (Nat.le_of_ble_eq_true rfl) ?_
                      exact b335 _ _ _ D x0 (x1 + x5) x4 x7 0 hP hS (lv_sub hl [1, 0, 4, 7] rfl) h
                    · have h := ite_f u11 h
                      refine lv_iload hx hb dL_areFaces_324 (lv_at hl 7 rfl) ?_
                      refine lv_iload_n hx hb dL_areFaces_326 rfl (lv_at hl 2 rfl) ?_
                      refine lv_icmp_lt (tgt := 334) hx hb dL_areFaces_327 (by decide) (fun u12 => ?_) (fun u12 => ?_)
                      · have h := ite_t u12 h
                        refine lv_iconst (v := 0) hx hb dL_areFaces_334 (by decide) ?_
                        refine W.widen (k := 3) (n := 18) (Nat.le_of_ble_eq_true rfl) (Nat.le_of_ble_eq_true rfl) ?_
                        exact b335 _ _ _ D x0 (x1 + x5) x4 x7 0 hP hS (lv_sub hl [1, 0, 4, 7] rfl) h
                      · have h := ite_f u12 h
                        refine lv_iconst (v := 1) hx hb dL_areFaces_330 (by decide) ?_
                        refine lv_goto (tgt := 335) hx hb dL_areFaces_331 (by decide) ?_
                        refine W.widen (k := 3) (n := 18) (Nat.le_of_ble_eq_true rfl) (Nat.le_of_ble_eq_true rfl) ?_
                        exact b335 _ _ _ D x0 (x1 + x5) x4 x7 1 hP hS (lv_sub hl [1, 0, 4, 7] rfl) h
                · have h := ite_t u9 h
                  refine lv_iload hx hb dL_areFaces_304 (lv_at hl 7 rfl) ?_
                  refine lv_iconst (v := (-1)) hx hb dL_areFaces_306 (by decide) ?_
                  refine lv_icmp_ne (tgt := 334) hx hb dL_areFaces_307 (by decide) (fun u13 => ?_) (fun u13 => ?_)
                  · have h := ite_f u13 h
                    refine lv_iconst (v := 0) hx hb dL_areFaces_334 (by decide) ?_
                    refine W.widen (k := 3) (n := 18) (Nat.le_of_ble_eq_true rfl) (Nat.le_of_ble_eq_true rfl) ?_
                    exact b335 _ _ _ D x0 (x1 + x5) x4 x7 0 hP hS (lv_sub hl [1, 0, 4, 7] rfl) h
                  · have h := ite_t u13 h
                    refine lv_goto (tgt := 330) hx hb dL_areFaces_310 (by decide) ?_
                    refine lv_iconst (v := 1) hx hb dL_areFaces_330 (by decide) ?_
                    refine lv_goto (tgt := 335) hx hb dL_areFaces_331 (by decide) ?_
                    refine W.widen (k := 3) (n := 18) (Nat.le_of_ble_eq_true rfl) (Nat.le_of_ble_eq_true rfl) ?_
                    exact b335 _ _ _ D x0 (x1 + x5) x4 x7 1 hP hS (lv_sub hl [1, 0, 4, 7] rfl) h
          · have h := ite_f u4 h
            refine lv_aload_n hx hb dL_areFaces_152 rfl (lv_at hl 0 rfl) ?_
            refine lv_iload hx hb dL_areFaces_153 (lv_at hl 8 rfl) ?_
            obtain ⟨t15, e14, h⟩ := cal_el h
            refine g_VI (As := [.int x8]) (rest := []) hC hP hS z1.1 (cE_6 z1.2) (C := RX6) (T := TX6) (N := 8) rfl (m_X6_leftOf l G F S D x0 x8 t15 e14) (cwV 1 hts (gVA wa_176 wa_177 wa_178 (hWCA _ wc_66) (hWCA _ wc_110) hWCA) rfl rfl rfl (by decide +kernel) ⟨Nat.le_of_ble_eq_true rfl, Nat.le_of_ble_eq_true rfl⟩) rfl hl.1 rfl (Nat.le_of_ble_eq_true rfl) dL_areFaces_155 ⟨Nat.le_of_ble_eq_true rfl, Nat.le_of_ble_eq_true rfl⟩ (fun H locs hP hS => ?_)
            refine lv_iload hx hb dL_areFaces_158 (lv_at hl 4 rfl) ?_
            refine lv_icmp_eq (tgt := 174) hx hb dL_areFaces_160 (by decide) (fun u16 => ?_) (fun u16 => ?_)
            · have h := ite_t u16 h
              refine lv_iconst (v := 1) hx hb dL_areFaces_174 (by decide) ?_
              refine lv_goto (tgt := 179) hx hb dL_areFaces_175 (by decide) ?_
              refine W.widen (k := 3) (n := 18) (Nat.le_of_ble_eq_true rfl) (Nat.le_of_ble_eq_true rfl) ?_
              exact b179 _ _ _ D x0 x1 x2 x3 x4 x5 x6 x7 x8 1 hP hS (lv_sub hl [0, 1, 2, 3, 4, 5, 6, 7, 8] rfl) h
            · have h := ite_f u16 h
              refine lv_aload_n hx hb dL_areFaces_163 rfl (lv_at hl 0 rfl) ?_
              refine lv_iload hx hb dL_areFaces_164 (lv_at hl 8 rfl) ?_
              obtain ⟨t18, e17, h⟩ := cal_el h
              refine g_VI (As := [.int x8]) (rest := []) hC hP hS z1.1 (cE_6 z1.2) (C := RX6) (T := TX6) (N := 8) rfl (m_X6_rightOf l G F S D x0 x8 t18 e17) (cwV 1 hts (gVA wa_179 wa_180 wa_181 (hWCA _ wc_66) (hWCA _ wc_111) hWCA) rfl rfl rfl (by decide +kernel) ⟨Nat.le_of_ble_eq_true rfl, Nat.le_of_ble_eq_true rfl⟩) rfl hl.1 rfl (Nat.le_of_ble_eq_true rfl) dL_areFaces_166 ⟨Nat.le_of_ble_eq_true rfl, Nat.le_of_ble_eq_true rfl⟩ (fun H locs hP hS => ?_)
              refine lv_iload hx hb dL_areFaces_169 (lv_at hl 4 rfl) ?_
              refine lv_icmp_ne (tgt := 178) hx hb dL_areFaces_171 (by decide) (fun u19 => ?_) (fun u19 => ?_)
              · have h := ite_f u19 h
                refine lv_iconst (v := 0) hx hb dL_areFaces_178 (by decide) ?_
                refine W.widen (k := 3) (n := 18) (Nat.le_of_ble_eq_true rfl) (Nat.le_of_ble_eq_true rfl) ?_
                exact b179 _ _ _ D x0 x1 x2 x3 x4 x5 x6 x7 x8 0 hP hS (lv_sub hl [0, 1, 2, 3, 4, 5, 6, 7, 8] rfl) h
              · have h := ite_t u19 h
                refine lv_iconst (v := 1) hx hb dL_areFaces_174 (by decide) ?_
                refine lv_goto (tgt := 179) hx hb dL_areFaces_175 (by decide) ?_
                refine W.widen (k := 3) (n := 18) (Nat.le_of_ble_eq_true rfl) (Nat.le_of_ble_eq_true rfl) ?_
                exact b179 _ _ _ D x0 x1 x2 x3 x4 x5 x6 x7 x8 1 hP hS (lv_sub hl [0, 1, 2, 3, 4, 5, 6, 7, 8] rfl) h
      intro H locs ls D x0 x1 x2 x3 x4 hP hS hl h
      rw [f_L_areFaces_L113] at h
      refine lv_iload hx hb dL_areFaces_113 (lv_at hl 4 rfl) ?_
      refine lv_aload_n hx hb dL_areFaces_115 rfl (lv_at hl 0 rfl) ?_
      obtain ⟨z1, h⟩ := ckK_el h
      obtain ⟨t3, e2, h⟩ := cal_el h
      refine g_VI (As := []) (rest := [.int x4]) hC hP hS z1.1 (cE_6 z1.2) (C := RX6) (T := TX6) (N := 8) rfl (m_X6_faces l G F S D x0 t3 e2) (cwV 0 hts (gVA wa_217 wa_218 wa_219 (hWCA _ wc_66) (hWCA _ wc_77) hWCA) rfl rfl rfl (by decide +kernel) ⟨Nat.le_of_ble_eq_true rfl, Nat.le_of_ble_eq_true rfl⟩) rfl hl.1 rfl (Nat.le_of_ble_eq_true rfl) dL_areFaces_116 ⟨Nat.le_of_ble_eq_true rfl, Nat.le_of_ble_eq_true rfl⟩ (fun H locs hP hS => ?_)
      refine lv_icmp_ge (tgt := 345) hx hb dL_areFaces_119 (by decide) (fun u4 => ?_) (fun u4 => ?_)
      · have h := ite_t u4 h
        refine W.widen (k := 3) (n := 18) (Nat.le_of_ble_eq_true rfl) (Nat.le_of_ble_eq_true rfl) ?_
        exact b345 _ _ _ D x0 x1 x3 hP hS (lv_sub hl [0, 1, 3] rfl) h
      · have h := ite_f u4 h
        refine lv_iload_n hx hb dL_areFaces_122 rfl (lv_at hl 3 rfl) ?_
        refine lv_if_eq (tgt := 345) hx hb dL_areFaces_123 (by decide) (fun u5 => ?_) (fun u5 => ?_)
        · have h := ite_t u5 h
          refine W.widen (k := 3) (n := 18) (Nat.le_of_ble_eq_true rfl) (Nat.le_of_ble_eq_true rfl) ?_
          exact b345 _ _ _ D x0 x1 x3 hP hS (lv_sub hl [0, 1, 3] rfl) h
        · have h := ite_f u5 h
          refine lv_iconst (v := 0) hx hb dL_areFaces_126 (by decide) ?_
          refine lv_istore (lv' := [(5, .int 0), (0, .ref x0), (1, .int x1), (2, .int x2), (3, .int x3), (4, .int x4)]) hx hb dL_areFaces_127 hl (by decide) rfl (fun ls hl => ?_)
          refine lv_iconst (v := 0) hx hb dL_areFaces_129 (by decide) ?_
          refine lv_istore (lv' := [(6, .int 0), (5, .int 0), (0, .ref x0), (1, .int x1), (2, .int x2), (3, .int x3), (4, .int x4)]) hx hb dL_areFaces_130 hl (by decide) rfl (fun ls hl => ?_)
          refine lv_aload_n hx hb dL_areFaces_132 rfl (lv_at hl 2 rfl) ?_
          refine lv_iload hx hb dL_areFaces_133 (lv_at hl 6 rfl) ?_
          obtain ⟨t7, e6, h⟩ := cal_el h
          refine g_VI (As := [.int x4]) (rest := []) hC hP hS z1.1 (cE_6 z1.2) (C := RX6) (T := TX6) (N := 8) rfl (m_X6_firstVertex l G F S D x0 x4 t7 e6) (cwV 1 hts (gVA wa_185 wa_186 wa_187 (hWCA _ wc_66) (hWCA _ wc_117) hWCA) rfl rfl rfl (by decide +kernel) ⟨Nat.le_of_ble_eq_true rfl, Nat.le_of_ble_eq_true rfl⟩) rfl hl.1 rfl (Nat.le_of_ble_eq_true rfl) dL_areFaces_135 ⟨Nat.le_of_ble_eq_true rfl, Nat.le_of_ble_eq_true rfl⟩ (fun H locs hP hS => ?_)
          refine lv_istore (lv' := [(7, .int t7), (6, .int 0), (5, .int 0), (0, .ref x0), (1, .int x1), (2, .int x2), (3, .int x3), (4, .int x4)]) hx hb dL_areFaces_138 hl (by decide) rfl (fun ls hl => ?_)
          refine lv_iconst (v := 0) hx hb dL_areFaces_140 (by decide) ?_
          refine lv_istore (lv' := [(8, .int 0), (7, .int t7), (6, .int 0), (5, .int 0), (0, .ref x0), (1, .int x1), (2, .int x2), (3, .int x3), (4, .int x4)]) hx hb dL_areFaces_141 hl (by decide) rfl (fun ls hl => ?_)
          refine W.widen (k := 3) (n := 18) (Nat.le_of_ble_eq_true rfl) (Nat.le_of_ble_eq_true rfl) ?_
          exact L143 F _ _ _ D x0 x1 x2 x3 x4 0 0 t7 0 hP hS (lv_sub hl [4, 5, 6, 7, 8, 3, 2, 1, 0] rfl) h
  have b59 : ∀ (H : Heap) (locs : List Loc) (ls : Array Slot) (D : CD) (x0 : Nat) (x1 : Int32) (x2 : Int32), va_P G.1 vwCl (cW G S D) H → va_S (cA G S sz) s.heap H locs → lv_has ls 10 [(0, .ref x0), (1, .int x1), (2, .int x2)] → f_L_areFaces_b59 F S D x0 x1 x2 = some (D2, r) → W p l e (headSpec wL_areFaces ({ frames := 11, cells := 3, slots := 18, locals := 430 })).room s m ([.ref a1] : List Value).toArray below meth c H locs 0 0 (lQI below G S D2 sz ([.ref a1] : List Value).toArray s r 3 18) (F0 m 59 ls []) := by
    intro H locs ls D x0 x1 x2 hP hS hl h
    unfold f_L_areFaces_b59 at h
    refine lv_aload_n hx hb dL_areFaces_59 rfl (lv_at hl 0 rfl) ?_
    refine lv_bipush (v := 11) hx hb dL_areFaces_60 (by decide) ?_
    refine lv_aload_n hx hb dL_areFaces_62 rfl (lv_at hl 0 rfl) ?_
    obtain ⟨z1, h⟩ := ckK_el h
    obtain ⟨t3, e2, h⟩ := cal_el h
    refine g_VI (As := []) (rest := [.int 11, .ref x0]) hC hP hS z1.1 (cE_6 z1.2) (C := RX6) (T := TX6) (N := 8) rfl (m_X6_faces l G F S D x0 t3 e2) (cwV 0 hts (gVA wa_217 wa_218 wa_219 (hWCA _ wc_66) (hWCA _ wc_77) hWCA) rfl rfl rfl (by decide +kernel) ⟨Nat.le_of_ble_eq_true rfl, Nat.le_of_ble_eq_true rfl⟩) rfl hl.1 rfl (Nat.le_of_ble_eq_true rfl) dL_areFaces_63 ⟨Nat.le_of_ble_eq_true rfl, Nat.le_of_ble_eq_true rfl⟩ (fun H locs hP hS => ?_)
    obtain ⟨D5, t6, e4, h⟩ := caM_el h
    refine g_SX (As := [.ref x0, .int 11, .int t3]) (rest := []) (mc := 1) (ms := 6) hC hv hP hS (m_L_of l hfl G F S z9 D D5 x0 11 t3 t6 e4) (vx_cwSW 3 hts (gSX wa_237 wa_238 wa_233 wa_147) rfl rfl rfl (by decide +kernel) ⟨Nat.le_of_ble_eq_true rfl, Nat.le_of_ble_eq_true rfl⟩) rfl hl.1 rfl (Nat.le_of_ble_eq_true rfl) dL_areFaces_66 ⟨Nat.le_of_ble_eq_true rfl, Nat.le_of_ble_eq_true rfl⟩ (fun H locs hP hS => ?_)
    refine lv_sipush (v := (-601)) hx hb dL_areFaces_69 (by decide) ?_
    refine lv_icmp_ne (tgt := 108) hx hb dL_areFaces_72 (by decide) (fun u7 => ?_) (fun u7 => ?_)
    · have h := ite_f u7 h
      refine lv_iconst (v := 0) hx hb dL_areFaces_108 (by decide) ?_
      refine lv_istore_n (lv' := [(3, .int 0), (0, .ref x0), (1, .int x1), (2, .int x2)]) hx hb dL_areFaces_109 rfl hl (by decide) rfl (fun ls hl => ?_)
      refine lv_iconst (v := 0) hx hb dL_areFaces_110 (by decide) ?_
      refine lv_istore (lv' := [(4, .int 0), (3, .int 0), (0, .ref x0), (1, .int x1), (2, .int x2)]) hx hb dL_areFaces_111 hl (by decide) rfl (fun ls hl => ?_)
      refine W.widen (k := 3) (n := 18) (Nat.le_of_ble_eq_true rfl) (Nat.le_of_ble_eq_true rfl) ?_
      exact L113 F _ _ _ D5 x0 x1 x2 0 0 hP hS (lv_sub hl [2, 3, 4, 1, 0] rfl) h
    · have h := ite_t u7 h
      refine lv_aload_n hx hb dL_areFaces_75 rfl (lv_at hl 0 rfl) ?_
      refine lv_bipush (v := 12) hx hb dL_areFaces_76 (by decide) ?_
      refine lv_aload_n hx hb dL_areFaces_78 rfl (lv_at hl 0 rfl) ?_
      obtain ⟨t9, e8, h⟩ := cal_el h
      refine g_VI (As := []) (rest := [.int 12, .ref x0]) hC hP hS z1.1 (cE_6 z1.2) (C := RX6) (T := TX6) (N := 8) rfl (m_X6_faces l G F S D5 x0 t9 e8) (cwV 0 hts (gVA wa_217 wa_218 wa_219 (hWCA _ wc_66) (hWCA _ wc_77) hWCA) rfl rfl rfl (by decide +kernel) ⟨Nat.le_of_ble_eq_true rfl, Nat.le_of_ble_eq_true rfl⟩) rfl hl.1 rfl (Nat.le_of_ble_eq_true rfl) dL_areFaces_79 ⟨Nat.le_of_ble_eq_true rfl, Nat.le_of_ble_eq_true rfl⟩ (fun H locs hP hS => ?_)
      obtain ⟨D11, t12, e10, h⟩ := caM_el h
      refine g_SX (As := [.ref x0, .int 12, .int t9]) (rest := []) (mc := 1) (ms := 6) hC hv hP hS (m_L_of l hfl G F S z9 D5 D11 x0 12 t9 t12 e10) (vx_cwSW 3 hts (gSX wa_237 wa_238 wa_233 wa_147) rfl rfl rfl (by decide +kernel) ⟨Nat.le_of_ble_eq_true rfl, Nat.le_of_ble_eq_true rfl⟩) rfl hl.1 rfl (Nat.le_of_ble_eq_true rfl) dL_areFaces_82 ⟨Nat.le_of_ble_eq_true rfl, Nat.le_of_ble_eq_true rfl⟩ (fun H locs hP hS => ?_)
      refine lv_sipush (v := (-601)) hx hb dL_areFaces_85 (by decide) ?_
      refine lv_icmp_ne (tgt := 108) hx hb dL_areFaces_88 (by decide) (fun u13 => ?_) (fun u13 => ?_)
      · have h := ite_f u13 h
        refine lv_iconst (v := 0) hx hb dL_areFaces_108 (by decide) ?_
        refine lv_istore_n (lv' := [(3, .int 0), (0, .ref x0), (1, .int x1), (2, .int x2)]) hx hb dL_areFaces_109 rfl hl (by decide) rfl (fun ls hl => ?_)
        refine lv_iconst (v := 0) hx hb dL_areFaces_110 (by decide) ?_
        refine lv_istore (lv' := [(4, .int 0), (3, .int 0), (0, .ref x0), (1, .int x1), (2, .int x2)]) hx hb dL_areFaces_111 hl (by decide) rfl (fun ls hl => ?_)
        refine W.widen (k := 3) (n := 18) (Nat.le_of_ble_eq_true rfl) (Nat.le_of_ble_eq_true rfl) ?_
        exact L113 F _ _ _ D11 x0 x1 x2 0 0 hP hS (lv_sub hl [2, 3, 4, 1, 0] rfl) h
      · have h := ite_t u13 h
        refine lv_aload_n hx hb dL_areFaces_91 rfl (lv_at hl 0 rfl) ?_
        refine lv_bipush (v := 11) hx hb dL_areFaces_92 (by decide) ?_
        refine lv_iconst (v := (-1)) hx hb dL_areFaces_94 (by decide) ?_
        obtain ⟨D15, t16, e14, h⟩ := caM_el h
        refine g_SX (As := [.ref x0, .int 11, .int ((-1))]) (rest := []) (mc := 1) (ms := 6) hC hv hP hS (m_L_of l hfl G F S z9 D11 D15 x0 11 ((-1)) t16 e14) (vx_cwSW 3 hts (gSX wa_237 wa_238 wa_233 wa_147) rfl rfl rfl (by decide +kernel) ⟨Nat.le_of_ble_eq_true rfl, Nat.le_of_ble_eq_true rfl⟩) rfl hl.1 rfl (Nat.le_of_ble_eq_true rfl) dL_areFaces_95 ⟨Nat.le_of_ble_eq_true rfl, Nat.le_of_ble_eq_true rfl⟩ (fun H locs hP hS => ?_)
        refine lv_sipush (v := (-601)) hx hb dL_areFaces_98 (by decide) ?_
        refine lv_icmp_ne (tgt := 108) hx hb dL_areFaces_101 (by decide) (fun u17 => ?_) (fun u17 => ?_)
        · have h := ite_f u17 h
          refine lv_iconst (v := 0) hx hb dL_areFaces_108 (by decide) ?_
          refine lv_istore_n (lv' := [(3, .int 0), (0, .ref x0), (1, .int x1), (2, .int x2)]) hx hb dL_areFaces_109 rfl hl (by decide) rfl (fun ls hl => ?_)
          refine lv_iconst (v := 0) hx hb dL_areFaces_110 (by decide) ?_
          refine lv_istore (lv' := [(4, .int 0), (3, .int 0), (0, .ref x0), (1, .int x1), (2, .int x2)]) hx hb dL_areFaces_111 hl (by decide) rfl (fun ls hl => ?_)
          refine W.widen (k := 3) (n := 18) (Nat.le_of_ble_eq_true rfl) (Nat.le_of_ble_eq_true rfl) ?_
          exact L113 F _ _ _ D15 x0 x1 x2 0 0 hP hS (lv_sub hl [2, 3, 4, 1, 0] rfl) h
        · have h := ite_t u17 h
          refine lv_iconst (v := 1) hx hb dL_areFaces_104 (by decide) ?_
          refine lv_goto (tgt := 109) hx hb dL_areFaces_105 (by decide) ?_
          refine lv_istore_n (lv' := [(3, .int 1), (0, .ref x0), (1, .int x1), (2, .int x2)]) hx hb dL_areFaces_109 rfl hl (by decide) rfl (fun ls hl => ?_)
          refine lv_iconst (v := 0) hx hb dL_areFaces_110 (by decide) ?_
          refine lv_istore (lv' := [(4, .int 0), (3, .int 1), (0, .ref x0), (1, .int x1), (2, .int x2)]) hx hb dL_areFaces_111 hl (by decide) rfl (fun ls hl => ?_)
          refine W.widen (k := 3) (n := 18) (Nat.le_of_ble_eq_true rfl) (Nat.le_of_ble_eq_true rfl) ?_
          exact L113 F _ _ _ D15 x0 x1 x2 1 0 hP hS (lv_sub hl [2, 3, 4, 1, 0] rfl) h
  refine m_entry (Nat.le_of_ble_eq_true rfl) (fun ls hl => ?_)
  have hl : lv_has ls 10 [(0, .ref a1)] := hl
  unfold f_L_areFaces at h
  refine lv_iconst (v := 0) hx hb dL_areFaces_0 (by decide) ?_
  refine lv_istore_n (lv' := [(1, .int 0), (0, .ref a1)]) hx hb dL_areFaces_1 rfl hl (by decide) rfl (fun ls hl => ?_)
  refine lv_iconst (v := (-1)) hx hb dL_areFaces_2 (by decide) ?_
  refine lv_istore_n (lv' := [(2, .int ((-1))), (1, .int 0), (0, .ref a1)]) hx hb dL_areFaces_3 rfl hl (by decide) rfl (fun ls hl => ?_)
  refine lv_aload_n hx hb dL_areFaces_4 rfl (lv_at hl 2 rfl) ?_
  obtain ⟨z1, h⟩ := ckK_el h
  obtain ⟨t3, e2, h⟩ := cal_el h
  refine g_VI (As := []) (rest := []) hC hP hS z1.1 (cE_6 z1.2) (C := RX6) (T := TX6) (N := 8) rfl (m_X6_faces l G F S D a1 t3 e2) (cwV 0 hts (gVA wa_217 wa_218 wa_219 (hWCA _ wc_66) (hWCA _ wc_77) hWCA) rfl rfl rfl (by decide +kernel) ⟨Nat.le_of_ble_eq_true rfl, Nat.le_of_ble_eq_true rfl⟩) rfl hl.1 rfl (Nat.le_of_ble_eq_true rfl) dL_areFaces_5 ⟨Nat.le_of_ble_eq_true rfl, Nat.le_of_ble_eq_true rfl⟩ (fun H locs hP hS => ?_)
  refine lv_aload_n hx hb dL_areFaces_8 rfl (lv_at hl 2 rfl) ?_
  obtain ⟨t5, e4, h⟩ := cal_el h
  refine g_VI (As := []) (rest := [.int t3]) hC hP hS z1.1 (cE_6 z1.2) (C := RX6) (T := TX6) (N := 8) rfl (m_X6_edges l G F S D a1 t5 e4) (cwV 0 hts (gVA wa_226 wa_227 wa_228 (hWCA _ wc_66) (hWCA _ wc_75) hWCA) rfl rfl rfl (by decide +kernel) ⟨Nat.le_of_ble_eq_true rfl, Nat.le_of_ble_eq_true rfl⟩) rfl hl.1 rfl (Nat.le_of_ble_eq_true rfl) dL_areFaces_9 ⟨Nat.le_of_ble_eq_true rfl, Nat.le_of_ble_eq_true rfl⟩ (fun H locs hP hS => ?_)
  refine lv_aload_n hx hb dL_areFaces_12 rfl (lv_at hl 2 rfl) ?_
  obtain ⟨t7, e6, h⟩ := cal_el h
  refine g_VI (As := []) (rest := [.int t5, .int t3]) hC hP hS z1.1 (cE_6 z1.2) (C := RX6) (T := TX6) (N := 8) rfl (m_X6_vertices l G F S D a1 t7 e6) (cwV 0 hts (gVA wa_223 wa_224 wa_225 (hWCA _ wc_66) (hWCA _ wc_73) hWCA) rfl rfl rfl (by decide +kernel) ⟨Nat.le_of_ble_eq_true rfl, Nat.le_of_ble_eq_true rfl⟩) rfl hl.1 rfl (Nat.le_of_ble_eq_true rfl) dL_areFaces_13 ⟨Nat.le_of_ble_eq_true rfl, Nat.le_of_ble_eq_true rfl⟩ (fun H locs hP hS => ?_)
  refine lv_isub hx hb dL_areFaces_16 ?_
  refine lv_aload_n hx hb dL_areFaces_17 rfl (lv_at hl 2 rfl) ?_
  obtain ⟨t9, e8, h⟩ := cal_el h
  refine g_VI (As := []) (rest := [.int (t5 - t7), .int t3]) hC hP hS z1.1 (cE_6 z1.2) (C := RX6) (T := TX6) (N := 8) rfl (m_X6_components l G F S D a1 t9 e8) (cwV 0 hts (gVA wa_220 wa_221 wa_222 (hWCA _ wc_66) (hWCA _ wc_79) hWCA) rfl rfl rfl (by decide +kernel) ⟨Nat.le_of_ble_eq_true rfl, Nat.le_of_ble_eq_true rfl⟩) rfl hl.1 rfl (Nat.le_of_ble_eq_true rfl) dL_areFaces_18 ⟨Nat.le_of_ble_eq_true rfl, Nat.le_of_ble_eq_true rfl⟩ (fun H locs hP hS => ?_)
  refine lv_iadd hx hb dL_areFaces_21 ?_
  refine lv_iconst (v := 1) hx hb dL_areFaces_22 (by decide) ?_
  refine lv_iadd hx hb dL_areFaces_23 ?_
  refine lv_icmp_ne (tgt := 108) hx hb dL_areFaces_24 (by decide) (fun u10 => ?_) (fun u10 => ?_)
  · have h := ite_f u10 h
    refine lv_iconst (v := 0) hx hb dL_areFaces_108 (by decide) ?_
    refine lv_istore_n (lv' := [(3, .int 0), (2, .int ((-1))), (1, .int 0), (0, .ref a1)]) hx hb dL_areFaces_109 rfl hl (by decide) rfl (fun ls hl => ?_)
    refine lv_iconst (v := 0) hx hb dL_areFaces_110 (by decide) ?_
    refine lv_istore (lv' := [(4, .int 0), (3, .int 0), (2, .int ((-1))), (1, .int 0), (0, .ref a1)]) hx hb dL_areFaces_111 hl (by decide) rfl (fun ls hl => ?_)
    refine W.widen (k := 3) (n := 18) (Nat.le_of_ble_eq_true rfl) (Nat.le_of_ble_eq_true rfl) ?_
    exact L113 F _ _ _ D a1 0 ((-1)) 0 0 hP hS (lv_sub hl [4, 3, 2, 1, 0] rfl) h
  · have h := ite_t u10 h
    refine lv_aload_n hx hb dL_areFaces_27 rfl (lv_at hl 2 rfl) ?_
    obtain ⟨t12, e11, h⟩ := cal_el h
    refine g_VI (As := []) (rest := []) hC hP hS z1.1 (cE_6 z1.2) (C := RX6) (T := TX6) (N := 8) rfl (m_X6_components l G F S D a1 t12 e11) (cwV 0 hts (gVA wa_220 wa_221 wa_222 (hWCA _ wc_66) (hWCA _ wc_79) hWCA) rfl rfl rfl (by decide +kernel) ⟨Nat.le_of_ble_eq_true rfl, Nat.le_of_ble_eq_true rfl⟩) rfl hl.1 rfl (Nat.le_of_ble_eq_true rfl) dL_areFaces_28 ⟨Nat.le_of_ble_eq_true rfl, Nat.le_of_ble_eq_true rfl⟩ (fun H locs hP hS => ?_)
    refine lv_if_lt (tgt := 108) hx hb dL_areFaces_31 (by decide) (fun u13 => ?_) (fun u13 => ?_)
    · have h := ite_t u13 h
      refine lv_iconst (v := 0) hx hb dL_areFaces_108 (by decide) ?_
      refine lv_istore_n (lv' := [(3, .int 0), (2, .int ((-1))), (1, .int 0), (0, .ref a1)]) hx hb dL_areFaces_109 rfl hl (by decide) rfl (fun ls hl => ?_)
      refine lv_iconst (v := 0) hx hb dL_areFaces_110 (by decide) ?_
      refine lv_istore (lv' := [(4, .int 0), (3, .int 0), (2, .int ((-1))), (1, .int 0), (0, .ref a1)]) hx hb dL_areFaces_111 hl (by decide) rfl (fun ls hl => ?_)
      refine W.widen (k := 3) (n := 18) (Nat.le_of_ble_eq_true rfl) (Nat.le_of_ble_eq_true rfl) ?_
      exact L113 F _ _ _ D a1 0 ((-1)) 0 0 hP hS (lv_sub hl [4, 3, 2, 1, 0] rfl) h
    · have h := ite_f u13 h
      refine lv_aload_n hx hb dL_areFaces_34 rfl (lv_at hl 2 rfl) ?_
      obtain ⟨t15, e14, h⟩ := cal_el h
      refine g_VI (As := []) (rest := []) hC hP hS z1.1 (cE_6 z1.2) (C := RX6) (T := TX6) (N := 8) rfl (m_X6_components l G F S D a1 t15 e14) (cwV 0 hts (gVA wa_220 wa_221 wa_222 (hWCA _ wc_66) (hWCA _ wc_79) hWCA) rfl rfl rfl (by decide +kernel) ⟨Nat.le_of_ble_eq_true rfl, Nat.le_of_ble_eq_true rfl⟩) rfl hl.1 rfl (Nat.le_of_ble_eq_true rfl) dL_areFaces_35 ⟨Nat.le_of_ble_eq_true rfl, Nat.le_of_ble_eq_true rfl⟩ (fun H locs hP hS => ?_)
      refine lv_aload_n hx hb dL_areFaces_38 rfl (lv_at hl 2 rfl) ?_
      obtain ⟨t17, e16, h⟩ := cal_el h
      refine g_VI (As := []) (rest := [.int t15]) hC hP hS z1.1 (cE_6 z1.2) (C := RX6) (T := TX6) (N := 8) rfl (m_X6_segments l G F S D a1 t17 e16) (cwV 0 hts (gVA wa_214 wa_215 wa_216 (hWCA _ wc_66) (hWCA _ wc_2) hWCA) rfl rfl rfl (by decide +kernel) ⟨Nat.le_of_ble_eq_true rfl, Nat.le_of_ble_eq_true rfl⟩) rfl hl.1 rfl (Nat.le_of_ble_eq_true rfl) dL_areFaces_39 ⟨Nat.le_of_ble_eq_true rfl, Nat.le_of_ble_eq_true rfl⟩ (fun H locs hP hS => ?_)
      refine lv_icmp_gt (tgt := 108) hx hb dL_areFaces_42 (by decide) (fun u18 => ?_) (fun u18 => ?_)
      · have h := ite_t u18 h
        refine lv_iconst (v := 0) hx hb dL_areFaces_108 (by decide) ?_
        refine lv_istore_n (lv' := [(3, .int 0), (2, .int ((-1))), (1, .int 0), (0, .ref a1)]) hx hb dL_areFaces_109 rfl hl (by decide) rfl (fun ls hl => ?_)
        refine lv_iconst (v := 0) hx hb dL_areFaces_110 (by decide) ?_
        refine lv_istore (lv' := [(4, .int 0), (3, .int 0), (2, .int ((-1))), (1, .int 0), (0, .ref a1)]) hx hb dL_areFaces_111 hl (by decide) rfl (fun ls hl => ?_)
        refine W.widen (k := 3) (n := 18) (Nat.le_of_ble_eq_true rfl) (Nat.le_of_ble_eq_true rfl) ?_
        exact L113 F _ _ _ D a1 0 ((-1)) 0 0 hP hS (lv_sub hl [4, 3, 2, 1, 0] rfl) h
      · have h := ite_f u18 h
        refine lv_aload_n hx hb dL_areFaces_45 rfl (lv_at hl 2 rfl) ?_
        obtain ⟨t20, e19, h⟩ := cal_el h
        refine g_VI (As := []) (rest := []) hC hP hS z1.1 (cE_6 z1.2) (C := RX6) (T := TX6) (N := 8) rfl (m_X6_segments l G F S D a1 t20 e19) (cwV 0 hts (gVA wa_214 wa_215 wa_216 (hWCA _ wc_66) (hWCA _ wc_2) hWCA) rfl rfl rfl (by decide +kernel) ⟨Nat.le_of_ble_eq_true rfl, Nat.le_of_ble_eq_true rfl⟩) rfl hl.1 rfl (Nat.le_of_ble_eq_true rfl) dL_areFaces_46 ⟨Nat.le_of_ble_eq_true rfl, Nat.le_of_ble_eq_true rfl⟩ (fun H locs hP hS => ?_)
        refine lv_if_eq (tgt := 59) hx hb dL_areFaces_49 (by decide) (fun u21 => ?_) (fun u21 => ?_)
        · have h := ite_t u21 h
          refine W.widen (k := 0) (n := 0) (Nat.le_of_ble_eq_true rfl) (Nat.le_of_ble_eq_true rfl) ?_
          exact b59 _ _ _ D a1 0 ((-1)) hP hS (lv_sub hl [2, 1, 0] rfl) h
        · have h := ite_f u21 h
          refine lv_aload_n hx hb dL_areFaces_52 rfl (lv_at hl 2 rfl) ?_
          obtain ⟨t23, e22, h⟩ := cal_el h
          refine g_VI (As := []) (rest := []) hC hP hS z1.1 (cE_6 z1.2) (C := RX6) (T := TX6) (N := 8) rfl (m_X6_components l G F S D a1 t23 e22) (cwV 0 hts (gVA wa_220 wa_221 wa_222 (hWCA _ wc_66) (hWCA _ wc_79) hWCA) rfl rfl rfl (by decide +kernel) ⟨Nat.le_of_ble_eq_true rfl, Nat.le_of_ble_eq_true rfl⟩) rfl hl.1 rfl (Nat.le_of_ble_eq_true rfl) dL_areFaces_53 ⟨Nat.le_of_ble_eq_true rfl, Nat.le_of_ble_eq_true rfl⟩ (fun H locs hP hS => ?_)
          refine lv_if_le (tgt := 108) hx hb dL_areFaces_56 (by decide) (fun u24 => ?_) (fun u24 => ?_)
          · have h := ite_t u24 h
            refine lv_iconst (v := 0) hx hb dL_areFaces_108 (by decide) ?_
            refine lv_istore_n (lv' := [(3, .int 0), (2, .int ((-1))), (1, .int 0), (0, .ref a1)]) hx hb dL_areFaces_109 rfl hl (by decide) rfl (fun ls hl => ?_)
            refine lv_iconst (v := 0) hx hb dL_areFaces_110 (by decide) ?_
            refine lv_istore (lv' := [(4, .int 0), (3, .int 0), (2, .int ((-1))), (1, .int 0), (0, .ref a1)]) hx hb dL_areFaces_111 hl (by decide) rfl (fun ls hl => ?_)
            refine W.widen (k := 3) (n := 18) (Nat.le_of_ble_eq_true rfl) (Nat.le_of_ble_eq_true rfl) ?_
            exact L113 F _ _ _ D a1 0 ((-1)) 0 0 hP hS (lv_sub hl [4, 3, 2, 1, 0] rfl) h
          · have h := ite_f u24 h
            refine W.widen (k := 0) (n := 0) (Nat.le_of_ble_eq_true rfl) (Nat.le_of_ble_eq_true rfl) ?_
            exact b59 _ _ _ D a1 0 ((-1)) hP hS (lv_sub hl [2, 1, 0] rfl) h
