/-! dice, and the rows that decode isAdded and isRemoved. -/
theorem dL_dice_0 : decode cL_dice 0 = .ok (.iload_n 1, 1) := by decide +kernel
theorem dL_dice_1 : decode cL_dice 1 = .ok (.aload_n 0, 1) := by decide +kernel
theorem dL_dice_2 : decode cL_dice 2 = .ok (.arraylength, 1) := by decide +kernel
theorem dL_dice_3 : decode cL_dice 3 = .ok (.if_icmp .ge 9, 3) := by decide +kernel
theorem dL_dice_6 : decode cL_dice 6 = .ok (.aload_n 0, 1) := by decide +kernel
theorem dL_dice_7 : decode cL_dice 7 = .ok (.iload_n 1, 1) := by decide +kernel
theorem dL_dice_8 : decode cL_dice 8 = .ok (.iaload, 1) := by decide +kernel
theorem dL_dice_9 : decode cL_dice 9 = .ok (.goto 21, 3) := by decide +kernel
theorem dL_dice_12 : decode cL_dice 12 = .ok (.ldc 7, 2) := by decide +kernel
theorem dL_dice_14 : decode cL_dice 14 = .ok (.iload_n 1, 1) := by decide +kernel
theorem dL_dice_15 : decode cL_dice 15 = .ok (.bipush 97, 2) := by decide +kernel
theorem dL_dice_17 : decode cL_dice 17 = .ok (.iadd, 1) := by decide +kernel
theorem dL_dice_18 : decode cL_dice 18 = .ok (.imul, 1) := by decide +kernel
theorem dL_dice_19 : decode cL_dice 19 = .ok (.sipush 433, 3) := by decide +kernel
theorem dL_dice_22 : decode cL_dice 22 = .ok (.iload_n 1, 1) := by decide +kernel
theorem dL_dice_23 : decode cL_dice 23 = .ok (.imul, 1) := by decide +kernel
theorem dL_dice_24 : decode cL_dice 24 = .ok (.iload_n 1, 1) := by decide +kernel
theorem dL_dice_25 : decode cL_dice 25 = .ok (.imul, 1) := by decide +kernel
theorem dL_dice_26 : decode cL_dice 26 = .ok (.iadd, 1) := by decide +kernel
theorem dL_dice_27 : decode cL_dice 27 = .ok (.bipush 71, 2) := by decide +kernel
theorem dL_dice_29 : decode cL_dice 29 = .ok (.iadd, 1) := by decide +kernel
theorem dL_dice_30 : decode cL_dice 30 = .ok (.ldc 8, 2) := by decide +kernel
theorem dL_dice_32 : decode cL_dice 32 = .ok (.iand, 1) := by decide +kernel
theorem dL_dice_33 : decode cL_dice 33 = .ok (.ireturn, 1) := by decide +kernel
theorem dL_isAdded_0 : decode cL_isAdded 0 = .ok (.iload_n 3, 1) := by decide +kernel
theorem dL_isAdded_1 : decode cL_isAdded 1 = .ok (.iload 5, 2) := by decide +kernel
theorem dL_isAdded_3 : decode cL_isAdded 3 = .ok (.if_icmp .lt 16, 3) := by decide +kernel
theorem dL_isAdded_6 : decode cL_isAdded 6 = .ok (.iload_n 3, 1) := by decide +kernel
theorem dL_isAdded_7 : decode cL_isAdded 7 = .ok (.iload 5, 2) := by decide +kernel
theorem dL_isAdded_9 : decode cL_isAdded 9 = .ok (.if_icmp .ne 14, 3) := by decide +kernel
theorem dL_isAdded_12 : decode cL_isAdded 12 = .ok (.iload 4, 2) := by decide +kernel
theorem dL_isAdded_14 : decode cL_isAdded 14 = .ok (.iload 6, 2) := by decide +kernel
theorem dL_isAdded_16 : decode cL_isAdded 16 = .ok (.if_icmp .ge 7, 3) := by decide +kernel
theorem dL_isAdded_19 : decode cL_isAdded 19 = .ok (.iconst 1, 1) := by decide +kernel
theorem dL_isAdded_20 : decode cL_isAdded 20 = .ok (.goto 4, 3) := by decide +kernel
theorem dL_isAdded_23 : decode cL_isAdded 23 = .ok (.iconst 0, 1) := by decide +kernel
theorem dL_isAdded_24 : decode cL_isAdded 24 = .ok (.istore 7, 2) := by decide +kernel
theorem dL_isAdded_26 : decode cL_isAdded 26 = .ok (.aload_n 2, 1) := by decide +kernel
theorem dL_isAdded_27 : decode cL_isAdded 27 = .ok (.iconst 0, 1) := by decide +kernel
theorem dL_isAdded_28 : decode cL_isAdded 28 = .ok (.iaload, 1) := by decide +kernel
theorem dL_isAdded_29 : decode cL_isAdded 29 = .ok (.bipush 12, 2) := by decide +kernel
theorem dL_isAdded_31 : decode cL_isAdded 31 = .ok (.if_icmp .ge 9, 3) := by decide +kernel
theorem dL_isAdded_34 : decode cL_isAdded 34 = .ok (.aload_n 2, 1) := by decide +kernel
theorem dL_isAdded_35 : decode cL_isAdded 35 = .ok (.iconst 0, 1) := by decide +kernel
theorem dL_isAdded_36 : decode cL_isAdded 36 = .ok (.iaload, 1) := by decide +kernel
theorem dL_isAdded_37 : decode cL_isAdded 37 = .ok (.goto 5, 3) := by decide +kernel
theorem dL_isAdded_40 : decode cL_isAdded 40 = .ok (.bipush 12, 2) := by decide +kernel
theorem dL_isAdded_42 : decode cL_isAdded 42 = .ok (.istore 8, 2) := by decide +kernel
theorem dL_isAdded_44 : decode cL_isAdded 44 = .ok (.aload_n 0, 1) := by decide +kernel
theorem dL_isAdded_45 : decode cL_isAdded 45 = .ok (.invokestatic 151, 3) := by decide +kernel
theorem dL_isAdded_48 : decode cL_isAdded 48 = .ok (.lstore 9, 2) := by decide +kernel
theorem dL_isAdded_50 : decode cL_isAdded 50 = .ok (.aload_n 0, 1) := by decide +kernel
theorem dL_isAdded_51 : decode cL_isAdded 51 = .ok (.iload_n 3, 1) := by decide +kernel
theorem dL_isAdded_52 : decode cL_isAdded 52 = .ok (.iload 4, 2) := by decide +kernel
theorem dL_isAdded_54 : decode cL_isAdded 54 = .ok (.iload 5, 2) := by decide +kernel
theorem dL_isAdded_56 : decode cL_isAdded 56 = .ok (.iload 6, 2) := by decide +kernel
theorem dL_isAdded_58 : decode cL_isAdded 58 = .ok (.invokestatic 155, 3) := by decide +kernel
theorem dL_isAdded_61 : decode cL_isAdded 61 = .ok (.istore 11, 2) := by decide +kernel
theorem dL_isAdded_63 : decode cL_isAdded 63 = .ok (.iload_n 3, 1) := by decide +kernel
theorem dL_isAdded_64 : decode cL_isAdded 64 = .ok (.iload 5, 2) := by decide +kernel
theorem dL_isAdded_66 : decode cL_isAdded 66 = .ok (.if_icmp .ne 24, 3) := by decide +kernel
theorem dL_isAdded_69 : decode cL_isAdded 69 = .ok (.iload 4, 2) := by decide +kernel
theorem dL_isAdded_71 : decode cL_isAdded 71 = .ok (.iload 6, 2) := by decide +kernel
theorem dL_isAdded_73 : decode cL_isAdded 73 = .ok (.if_icmp .ne 17, 3) := by decide +kernel
theorem dL_isAdded_76 : decode cL_isAdded 76 = .ok (.iload 11, 2) := by decide +kernel
theorem dL_isAdded_78 : decode cL_isAdded 78 = .ok (.sipush (-602), 3) := by decide +kernel
theorem dL_isAdded_81 : decode cL_isAdded 81 = .ok (.if_icmp .ne 7, 3) := by decide +kernel
theorem dL_isAdded_84 : decode cL_isAdded 84 = .ok (.iconst 1, 1) := by decide +kernel
theorem dL_isAdded_85 : decode cL_isAdded 85 = .ok (.goto 4, 3) := by decide +kernel
theorem dL_isAdded_88 : decode cL_isAdded 88 = .ok (.iconst 0, 1) := by decide +kernel
theorem dL_isAdded_89 : decode cL_isAdded 89 = .ok (.ireturn, 1) := by decide +kernel
theorem dL_isAdded_90 : decode cL_isAdded 90 = .ok (.aload_n 1, 1) := by decide +kernel
theorem dL_isAdded_91 : decode cL_isAdded 91 = .ok (.iconst 4, 1) := by decide +kernel
theorem dL_isAdded_92 : decode cL_isAdded 92 = .ok (.iload 8, 2) := by decide +kernel
theorem dL_isAdded_94 : decode cL_isAdded 94 = .ok (.imul, 1) := by decide +kernel
theorem dL_isAdded_95 : decode cL_isAdded 95 = .ok (.iload 7, 2) := by decide +kernel
theorem dL_isAdded_97 : decode cL_isAdded 97 = .ok (.ifCond .eq 7, 3) := by decide +kernel
theorem dL_isAdded_100 : decode cL_isAdded 100 = .ok (.iload_n 3, 1) := by decide +kernel
theorem dL_isAdded_101 : decode cL_isAdded 101 = .ok (.goto 5, 3) := by decide +kernel
theorem dL_isAdded_104 : decode cL_isAdded 104 = .ok (.iload 5, 2) := by decide +kernel
theorem dL_isAdded_106 : decode cL_isAdded 106 = .ok (.iastore, 1) := by decide +kernel
theorem dL_isAdded_107 : decode cL_isAdded 107 = .ok (.aload_n 1, 1) := by decide +kernel
theorem dL_isAdded_108 : decode cL_isAdded 108 = .ok (.iconst 4, 1) := by decide +kernel
theorem dL_isAdded_109 : decode cL_isAdded 109 = .ok (.iload 8, 2) := by decide +kernel
theorem dL_isAdded_111 : decode cL_isAdded 111 = .ok (.imul, 1) := by decide +kernel
theorem dL_isAdded_112 : decode cL_isAdded 112 = .ok (.iconst 1, 1) := by decide +kernel
theorem dL_isAdded_113 : decode cL_isAdded 113 = .ok (.iadd, 1) := by decide +kernel
theorem dL_isAdded_114 : decode cL_isAdded 114 = .ok (.iload 7, 2) := by decide +kernel
theorem dL_isAdded_116 : decode cL_isAdded 116 = .ok (.ifCond .eq 8, 3) := by decide +kernel
theorem dL_isAdded_119 : decode cL_isAdded 119 = .ok (.iload 4, 2) := by decide +kernel
theorem dL_isAdded_121 : decode cL_isAdded 121 = .ok (.goto 5, 3) := by decide +kernel
theorem dL_isAdded_124 : decode cL_isAdded 124 = .ok (.iload 6, 2) := by decide +kernel
theorem dL_isAdded_126 : decode cL_isAdded 126 = .ok (.iastore, 1) := by decide +kernel
theorem dL_isAdded_127 : decode cL_isAdded 127 = .ok (.aload_n 1, 1) := by decide +kernel
theorem dL_isAdded_128 : decode cL_isAdded 128 = .ok (.iconst 4, 1) := by decide +kernel
theorem dL_isAdded_129 : decode cL_isAdded 129 = .ok (.iload 8, 2) := by decide +kernel
theorem dL_isAdded_131 : decode cL_isAdded 131 = .ok (.imul, 1) := by decide +kernel
theorem dL_isAdded_132 : decode cL_isAdded 132 = .ok (.iconst 2, 1) := by decide +kernel
theorem dL_isAdded_133 : decode cL_isAdded 133 = .ok (.iadd, 1) := by decide +kernel
theorem dL_isAdded_134 : decode cL_isAdded 134 = .ok (.iload 7, 2) := by decide +kernel
theorem dL_isAdded_136 : decode cL_isAdded 136 = .ok (.ifCond .eq 8, 3) := by decide +kernel
theorem dL_isAdded_139 : decode cL_isAdded 139 = .ok (.iload 5, 2) := by decide +kernel
theorem dL_isAdded_141 : decode cL_isAdded 141 = .ok (.goto 4, 3) := by decide +kernel
theorem dL_isAdded_144 : decode cL_isAdded 144 = .ok (.iload_n 3, 1) := by decide +kernel
theorem dL_isAdded_145 : decode cL_isAdded 145 = .ok (.iastore, 1) := by decide +kernel
theorem dL_isAdded_146 : decode cL_isAdded 146 = .ok (.aload_n 1, 1) := by decide +kernel
theorem dL_isAdded_147 : decode cL_isAdded 147 = .ok (.iconst 4, 1) := by decide +kernel
theorem dL_isAdded_148 : decode cL_isAdded 148 = .ok (.iload 8, 2) := by decide +kernel
theorem dL_isAdded_150 : decode cL_isAdded 150 = .ok (.imul, 1) := by decide +kernel
theorem dL_isAdded_151 : decode cL_isAdded 151 = .ok (.iconst 3, 1) := by decide +kernel
theorem dL_isAdded_152 : decode cL_isAdded 152 = .ok (.iadd, 1) := by decide +kernel
theorem dL_isAdded_153 : decode cL_isAdded 153 = .ok (.iload 7, 2) := by decide +kernel
theorem dL_isAdded_155 : decode cL_isAdded 155 = .ok (.ifCond .eq 8, 3) := by decide +kernel
theorem dL_isAdded_158 : decode cL_isAdded 158 = .ok (.iload 6, 2) := by decide +kernel
theorem dL_isAdded_160 : decode cL_isAdded 160 = .ok (.goto 5, 3) := by decide +kernel
theorem dL_isAdded_163 : decode cL_isAdded 163 = .ok (.iload 4, 2) := by decide +kernel
theorem dL_isAdded_165 : decode cL_isAdded 165 = .ok (.iastore, 1) := by decide +kernel
theorem dL_isAdded_166 : decode cL_isAdded 166 = .ok (.aload_n 2, 1) := by decide +kernel
theorem dL_isAdded_167 : decode cL_isAdded 167 = .ok (.iconst 0, 1) := by decide +kernel
theorem dL_isAdded_168 : decode cL_isAdded 168 = .ok (.iaload, 1) := by decide +kernel
theorem dL_isAdded_169 : decode cL_isAdded 169 = .ok (.bipush 12, 2) := by decide +kernel
theorem dL_isAdded_171 : decode cL_isAdded 171 = .ok (.if_icmp .ge 7, 3) := by decide +kernel
theorem dL_isAdded_174 : decode cL_isAdded 174 = .ok (.iconst 1, 1) := by decide +kernel
theorem dL_isAdded_175 : decode cL_isAdded 175 = .ok (.goto 4, 3) := by decide +kernel
theorem dL_isAdded_178 : decode cL_isAdded 178 = .ok (.iconst 0, 1) := by decide +kernel
theorem dL_isAdded_179 : decode cL_isAdded 179 = .ok (.istore 12, 2) := by decide +kernel
theorem dL_isAdded_181 : decode cL_isAdded 181 = .ok (.iconst 0, 1) := by decide +kernel
theorem dL_isAdded_182 : decode cL_isAdded 182 = .ok (.istore 13, 2) := by decide +kernel
theorem dL_isAdded_184 : decode cL_isAdded 184 = .ok (.iload 13, 2) := by decide +kernel
theorem dL_isAdded_186 : decode cL_isAdded 186 = .ok (.aload_n 2, 1) := by decide +kernel
theorem dL_isAdded_187 : decode cL_isAdded 187 = .ok (.iconst 0, 1) := by decide +kernel
theorem dL_isAdded_188 : decode cL_isAdded 188 = .ok (.iaload, 1) := by decide +kernel
theorem dL_isAdded_189 : decode cL_isAdded 189 = .ok (.if_icmp .ge 32, 3) := by decide +kernel
theorem dL_isAdded_192 : decode cL_isAdded 192 = .ok (.iload 12, 2) := by decide +kernel
theorem dL_isAdded_194 : decode cL_isAdded 194 = .ok (.ifCond .eq 27, 3) := by decide +kernel
theorem dL_isAdded_197 : decode cL_isAdded 197 = .ok (.aload_n 1, 1) := by decide +kernel
theorem dL_isAdded_198 : decode cL_isAdded 198 = .ok (.iload 13, 2) := by decide +kernel
theorem dL_isAdded_200 : decode cL_isAdded 200 = .ok (.iload 8, 2) := by decide +kernel
theorem dL_isAdded_202 : decode cL_isAdded 202 = .ok (.invokestatic 147, 3) := by decide +kernel
theorem dL_isAdded_205 : decode cL_isAdded 205 = .ok (.ifCond .ne 7, 3) := by decide +kernel
theorem dL_isAdded_208 : decode cL_isAdded 208 = .ok (.iconst 1, 1) := by decide +kernel
theorem dL_isAdded_209 : decode cL_isAdded 209 = .ok (.goto 4, 3) := by decide +kernel
theorem dL_isAdded_212 : decode cL_isAdded 212 = .ok (.iconst 0, 1) := by decide +kernel
theorem dL_isAdded_213 : decode cL_isAdded 213 = .ok (.istore 12, 2) := by decide +kernel
theorem dL_isAdded_215 : decode cL_isAdded 215 = .ok (.iinc 13 1, 3) := by decide +kernel
theorem dL_isAdded_218 : decode cL_isAdded 218 = .ok (.goto (-34), 3) := by decide +kernel
theorem dL_isAdded_221 : decode cL_isAdded 221 = .ok (.aload_n 2, 1) := by decide +kernel
theorem dL_isAdded_222 : decode cL_isAdded 222 = .ok (.iconst 0, 1) := by decide +kernel
theorem dL_isAdded_223 : decode cL_isAdded 223 = .ok (.dup2, 1) := by decide +kernel
theorem dL_isAdded_224 : decode cL_isAdded 224 = .ok (.iaload, 1) := by decide +kernel
theorem dL_isAdded_225 : decode cL_isAdded 225 = .ok (.iload 12, 2) := by decide +kernel
theorem dL_isAdded_227 : decode cL_isAdded 227 = .ok (.ifCond .eq 7, 3) := by decide +kernel
theorem dL_isAdded_230 : decode cL_isAdded 230 = .ok (.iconst 1, 1) := by decide +kernel
theorem dL_isAdded_231 : decode cL_isAdded 231 = .ok (.goto 4, 3) := by decide +kernel
theorem dL_isAdded_234 : decode cL_isAdded 234 = .ok (.iconst 0, 1) := by decide +kernel
theorem dL_isAdded_235 : decode cL_isAdded 235 = .ok (.iadd, 1) := by decide +kernel
theorem dL_isAdded_236 : decode cL_isAdded 236 = .ok (.iastore, 1) := by decide +kernel
theorem dL_isAdded_237 : decode cL_isAdded 237 = .ok (.iload 11, 2) := by decide +kernel
theorem dL_isAdded_239 : decode cL_isAdded 239 = .ok (.iload 12, 2) := by decide +kernel
theorem dL_isAdded_241 : decode cL_isAdded 241 = .ok (.ifCond .eq 8, 3) := by decide +kernel
theorem dL_isAdded_244 : decode cL_isAdded 244 = .ok (.iload 8, 2) := by decide +kernel
theorem dL_isAdded_246 : decode cL_isAdded 246 = .ok (.goto 6, 3) := by decide +kernel
theorem dL_isAdded_249 : decode cL_isAdded 249 = .ok (.sipush (-603), 3) := by decide +kernel
theorem dL_isAdded_252 : decode cL_isAdded 252 = .ok (.if_icmp .ne 32, 3) := by decide +kernel
theorem dL_isAdded_255 : decode cL_isAdded 255 = .ok (.aload_n 0, 1) := by decide +kernel
theorem dL_isAdded_256 : decode cL_isAdded 256 = .ok (.invokevirtual 75, 3) := by decide +kernel
theorem dL_isAdded_259 : decode cL_isAdded 259 = .ok (.aload_n 2, 1) := by decide +kernel
theorem dL_isAdded_260 : decode cL_isAdded 260 = .ok (.iconst 0, 1) := by decide +kernel
theorem dL_isAdded_261 : decode cL_isAdded 261 = .ok (.iaload, 1) := by decide +kernel
theorem dL_isAdded_262 : decode cL_isAdded 262 = .ok (.if_icmp .ne 22, 3) := by decide +kernel
theorem dL_isAdded_265 : decode cL_isAdded 265 = .ok (.iload 12, 2) := by decide +kernel
theorem dL_isAdded_267 : decode cL_isAdded 267 = .ok (.ifCond .ne 13, 3) := by decide +kernel
theorem dL_isAdded_270 : decode cL_isAdded 270 = .ok (.aload_n 0, 1) := by decide +kernel
theorem dL_isAdded_271 : decode cL_isAdded 271 = .ok (.invokestatic 151, 3) := by decide +kernel
theorem dL_isAdded_274 : decode cL_isAdded 274 = .ok (.lload 9, 2) := by decide +kernel
theorem dL_isAdded_276 : decode cL_isAdded 276 = .ok (.lcmp, 1) := by decide +kernel
theorem dL_isAdded_277 : decode cL_isAdded 277 = .ok (.ifCond .ne 7, 3) := by decide +kernel
theorem dL_isAdded_280 : decode cL_isAdded 280 = .ok (.iconst 1, 1) := by decide +kernel
theorem dL_isAdded_281 : decode cL_isAdded 281 = .ok (.goto 4, 3) := by decide +kernel
theorem dL_isAdded_284 : decode cL_isAdded 284 = .ok (.iconst 0, 1) := by decide +kernel
theorem dL_isAdded_285 : decode cL_isAdded 285 = .ok (.ireturn, 1) := by decide +kernel
theorem dL_isRemoved_0 : decode cL_isRemoved 0 = .ok (.aload_n 0, 1) := by decide +kernel
theorem dL_isRemoved_1 : decode cL_isRemoved 1 = .ok (.invokevirtual 100, 3) := by decide +kernel
theorem dL_isRemoved_4 : decode cL_isRemoved 4 = .ok (.istore 4, 2) := by decide +kernel
theorem dL_isRemoved_6 : decode cL_isRemoved 6 = .ok (.aload_n 0, 1) := by decide +kernel
theorem dL_isRemoved_7 : decode cL_isRemoved 7 = .ok (.iconst 0, 1) := by decide +kernel
theorem dL_isRemoved_8 : decode cL_isRemoved 8 = .ok (.iload_n 3, 1) := by decide +kernel
theorem dL_isRemoved_9 : decode cL_isRemoved 9 = .ok (.invokestatic 120, 3) := by decide +kernel
theorem dL_isRemoved_12 : decode cL_isRemoved 12 = .ok (.istore 5, 2) := by decide +kernel
theorem dL_isRemoved_14 : decode cL_isRemoved 14 = .ok (.aload_n 2, 1) := by decide +kernel
theorem dL_isRemoved_15 : decode cL_isRemoved 15 = .ok (.iconst 0, 1) := by decide +kernel
theorem dL_isRemoved_16 : decode cL_isRemoved 16 = .ok (.dup2, 1) := by decide +kernel
theorem dL_isRemoved_17 : decode cL_isRemoved 17 = .ok (.iaload, 1) := by decide +kernel
theorem dL_isRemoved_18 : decode cL_isRemoved 18 = .ok (.iconst 1, 1) := by decide +kernel
theorem dL_isRemoved_19 : decode cL_isRemoved 19 = .ok (.isub, 1) := by decide +kernel
theorem dL_isRemoved_20 : decode cL_isRemoved 20 = .ok (.iastore, 1) := by decide +kernel
theorem dL_isRemoved_21 : decode cL_isRemoved 21 = .ok (.iconst 4, 1) := by decide +kernel
theorem dL_isRemoved_22 : decode cL_isRemoved 22 = .ok (.iload_n 3, 1) := by decide +kernel
theorem dL_isRemoved_23 : decode cL_isRemoved 23 = .ok (.imul, 1) := by decide +kernel
theorem dL_isRemoved_24 : decode cL_isRemoved 24 = .ok (.istore 6, 2) := by decide +kernel
theorem dL_isRemoved_26 : decode cL_isRemoved 26 = .ok (.iload 6, 2) := by decide +kernel
theorem dL_isRemoved_28 : decode cL_isRemoved 28 = .ok (.iconst 4, 1) := by decide +kernel
theorem dL_isRemoved_29 : decode cL_isRemoved 29 = .ok (.aload_n 2, 1) := by decide +kernel
theorem dL_isRemoved_30 : decode cL_isRemoved 30 = .ok (.iconst 0, 1) := by decide +kernel
theorem dL_isRemoved_31 : decode cL_isRemoved 31 = .ok (.iaload, 1) := by decide +kernel
theorem dL_isRemoved_32 : decode cL_isRemoved 32 = .ok (.imul, 1) := by decide +kernel
theorem dL_isRemoved_33 : decode cL_isRemoved 33 = .ok (.if_icmp .ge 19, 3) := by decide +kernel
theorem dL_isRemoved_36 : decode cL_isRemoved 36 = .ok (.aload_n 1, 1) := by decide +kernel
theorem dL_isRemoved_37 : decode cL_isRemoved 37 = .ok (.iload 6, 2) := by decide +kernel
theorem dL_isRemoved_39 : decode cL_isRemoved 39 = .ok (.aload_n 1, 1) := by decide +kernel
theorem dL_isRemoved_40 : decode cL_isRemoved 40 = .ok (.iload 6, 2) := by decide +kernel
theorem dL_isRemoved_42 : decode cL_isRemoved 42 = .ok (.iconst 4, 1) := by decide +kernel
theorem dL_isRemoved_43 : decode cL_isRemoved 43 = .ok (.iadd, 1) := by decide +kernel
theorem dL_isRemoved_44 : decode cL_isRemoved 44 = .ok (.iaload, 1) := by decide +kernel
theorem dL_isRemoved_45 : decode cL_isRemoved 45 = .ok (.iastore, 1) := by decide +kernel
theorem dL_isRemoved_46 : decode cL_isRemoved 46 = .ok (.iinc 6 1, 3) := by decide +kernel
theorem dL_isRemoved_49 : decode cL_isRemoved 49 = .ok (.goto (-23), 3) := by decide +kernel
theorem dL_isRemoved_52 : decode cL_isRemoved 52 = .ok (.iload 5, 2) := by decide +kernel
theorem dL_isRemoved_54 : decode cL_isRemoved 54 = .ok (.aload_n 2, 1) := by decide +kernel
theorem dL_isRemoved_55 : decode cL_isRemoved 55 = .ok (.iconst 0, 1) := by decide +kernel
theorem dL_isRemoved_56 : decode cL_isRemoved 56 = .ok (.iaload, 1) := by decide +kernel
theorem dL_isRemoved_57 : decode cL_isRemoved 57 = .ok (.if_icmp .ne 26, 3) := by decide +kernel
theorem dL_isRemoved_60 : decode cL_isRemoved 60 = .ok (.aload_n 0, 1) := by decide +kernel
theorem dL_isRemoved_61 : decode cL_isRemoved 61 = .ok (.invokevirtual 75, 3) := by decide +kernel
theorem dL_isRemoved_64 : decode cL_isRemoved 64 = .ok (.aload_n 2, 1) := by decide +kernel
theorem dL_isRemoved_65 : decode cL_isRemoved 65 = .ok (.iconst 0, 1) := by decide +kernel
theorem dL_isRemoved_66 : decode cL_isRemoved 66 = .ok (.iaload, 1) := by decide +kernel
theorem dL_isRemoved_67 : decode cL_isRemoved 67 = .ok (.if_icmp .ne 16, 3) := by decide +kernel
theorem dL_isRemoved_70 : decode cL_isRemoved 70 = .ok (.aload_n 0, 1) := by decide +kernel
theorem dL_isRemoved_71 : decode cL_isRemoved 71 = .ok (.invokevirtual 100, 3) := by decide +kernel
theorem dL_isRemoved_74 : decode cL_isRemoved 74 = .ok (.iload 4, 2) := by decide +kernel
theorem dL_isRemoved_76 : decode cL_isRemoved 76 = .ok (.if_icmp .ge 7, 3) := by decide +kernel
theorem dL_isRemoved_79 : decode cL_isRemoved 79 = .ok (.iconst 1, 1) := by decide +kernel
theorem dL_isRemoved_80 : decode cL_isRemoved 80 = .ok (.goto 4, 3) := by decide +kernel
theorem dL_isRemoved_83 : decode cL_isRemoved 83 = .ok (.iconst 0, 1) := by decide +kernel
theorem dL_isRemoved_84 : decode cL_isRemoved 84 = .ok (.ireturn, 1) := by decide +kernel
def wL_dice : List Cond := Cond.code yL_dice cL_dice 2 (some .int) :: WA
def wL_isAdded : List Cond := Cond.code yL_isAdded cL_isAdded 14 (some .boolean) :: WA
def wL_isRemoved : List Cond := Cond.code yL_isRemoved cL_isRemoved 7 (some .boolean) :: WA

/-- the number that dice answers -/
def dcF (L : Nat) (xs : Nat → Int32) (k : Int32) : Int32 := (if k < Int32.ofNat L then xs k.toNatClampNeg else 1779033703 * (k + 97) + 433 * k * k + 71) &&& 2147483647
theorem dcF_pos (L : Nat) (xs : Nat → Int32) (k : Int32) : 0 ≤ dcF L xs k := by
  rw [Int32.le_iff_toInt_le]
  unfold dcF
  rw [Jvm.Kit.i32_mask _ 2147483647 (k := 31) (by decide) (by decide)]
  exact Int.emod_nonneg _ (by decide)
def dRm : Room := { frames := 0, cells := 0, slots := 0, locals := 0 }
def dMI (l : Launch) (b : Nat) (k r : Int32) (L : Nat) (xs : Nat → Int32) : Prop := ∀ sz : Nat, Met l yL_dice wL_dice dRm (va_Pc [.ref b, .int k] (fun U => U.heap.size = sz ∧ va_X b L xs U U.heap)) (va_Qi (fun x (_ : Unit) => x = r) (fun _ _ => True) (fun q => sz ≤ q)) 0 0 (fun q => sz ≤ q)
theorem m_dice (l : Launch) (b L : Nat) (xs : Nat → Int32) (hL : L ≤ 260) (k : Int32) (hk : 0 ≤ k) : dMI l b k (dcF L xs k) L xs := by
  intro sz
  refine Met.ofW (cc := cL_dice) (maxL := 2) (ret := some .int) (by decide) rfl ?_
  intro p e s m args below meth c s₁ B hml hv
  obtain ⟨rfl, hsz, hX⟩ := hv
  have hx := B.exec
  have hb := B.bytes
  have hr := B.returns
  have hts := atoms_spec (ws := wL_dice) B.pre
  have hown : s.vm.findClass RL = some m.cls := findClass_of_methodNamed B.named
  have hlocks := B.notSynchronized
  have hbl : b < s.heap.size := by
    obtain ⟨scr, h1, -⟩ := hX
    exact (Array.getElem?_eq_some_iff.mp h1).1
  have hbA : ¬ (fun q : Nat => sz ≤ q) b := by
    show ¬ sz ≤ b
    omega
  have hS : va_S (fun q : Nat => sz ≤ q) s.heap s.heap [] := va_S.rf
  refine g_entry (Nat.le_of_ble_eq_true rfl) (fun ls hl => ?_)
  have hl : lv_has ls 2 [(0, .ref b), (1, .int k)] := hl
  have fin : ∀ (v : Int32) (ls : Array Slot), v &&& 2147483647 = dcF L xs k → W p l e (headSpec wL_dice dRm).room s m #[.ref b, .int k] below meth c s.heap [] 0 0 (MQ below (va_Qi (fun x (_ : Unit) => x = dcF L xs k) (fun _ _ => True) (fun q => sz ≤ q)) #[.ref b, .int k] s 0 0 (fun q => sz ≤ q)) (F0 m 30 ls [.int v]) := by
    intro v ls e1
    refine lv_ldc (v := 2147483647) hx hb hown (hts _ (List.mem_cons_of_mem _ wa_140)) dL_dice_30 ?_
    refine lv_iand hx hb dL_dice_32 ?_
    exact W.iret (v := v &&& 2147483647) hx hb hr (fun t ht hW => ⟨⟨_, (), rfl, e1, trivial⟩, hS.F ht⟩) hS.2.2 dL_dice_33 hlocks
  refine lv_iload_n hx hb dL_dice_0 rfl (lv_at hl 1 rfl) ?_
  refine lv_aload_n hx hb dL_dice_1 rfl (lv_at hl 0 rfl) ?_
  refine va_slen hx hb hX hbl hbA hS dL_dice_2 ?_
  refine lv_icmp_ge (tgt := 12) hx hb dL_dice_3 (by decide) (fun u => ?_) (fun u => ?_)
  · refine lv_ldc (v := 1779033703) hx hb hown (hts _ (List.mem_cons_of_mem _ wa_139)) dL_dice_12 ?_
    refine lv_iload_n hx hb dL_dice_14 rfl (lv_at hl 1 rfl) ?_
    refine lv_bipush (v := 97) hx hb dL_dice_15 (by decide) ?_
    refine lv_iadd hx hb dL_dice_17 ?_
    refine lv_imul hx hb dL_dice_18 ?_
    refine lv_sipush (v := 433) hx hb dL_dice_19 (by decide) ?_
    refine lv_iload_n hx hb dL_dice_22 rfl (lv_at hl 1 rfl) ?_
    refine lv_imul hx hb dL_dice_23 ?_
    refine lv_iload_n hx hb dL_dice_24 rfl (lv_at hl 1 rfl) ?_
    refine lv_imul hx hb dL_dice_25 ?_
    refine lv_iadd hx hb dL_dice_26 ?_
    refine lv_bipush (v := 71) hx hb dL_dice_27 (by decide) ?_
    refine lv_iadd hx hb dL_dice_29 ?_
    refine fin _ _ ?_
    unfold dcF
    rw [if_neg (fun w => by rw [Int32.lt_iff_toInt_lt] at w; rw [Int32.le_iff_toInt_le] at u; omega)]
  · have hlt : k < Int32.ofNat L := by
      rw [Int32.lt_iff_toInt_lt]
      rw [Int32.le_iff_toInt_le] at u
      omega
    have hin : vp_in k L := by
      unfold vp_in
      rintro (w | w)
      · exact absurd (Int32.lt_of_lt_of_le w hk) Int32.lt_irrefl
      · have e0 : (Int32.ofNat L).toInt = L := Int32.toInt_ofNat_of_lt (by omega)
        rw [Int32.lt_iff_toInt_lt, e0] at hlt
        rw [Int32.toNatClampNeg] at w
        have hk2 : (0 : Int32).toInt ≤ k.toInt := Int32.le_iff_toInt_le.mp hk
        have hk3 : (0 : Int) ≤ k.toInt := hk2
        omega
    refine lv_aload_n hx hb dL_dice_6 rfl (lv_at hl 0 rfl) ?_
    refine lv_iload_n hx hb dL_dice_7 rfl (lv_at hl 1 rfl) ?_
    refine va_sld hx hb hX hbl hbA hS hin dL_dice_8 ?_
    refine lv_goto (tgt := 30) hx hb dL_dice_9 (by decide) ?_
    refine fin _ _ ?_
    unfold dcF
    rw [if_pos hlt]
def dcW {α : Type} (dc : Int32 → Int32) (k : Int32) (g : Int32 → Option α) : Option α := if k < 0 then none else g (dc k)
theorem dcW_el {α : Type} {dc : Int32 → Int32} {k : Int32} {g : Int32 → Option α} {r : α} (h : dcW dc k g = some r) : 0 ≤ k ∧ ∃ t : Int32, t = dc k ∧ g t = some r := by
  unfold dcW at h
  by_cases w : k < 0
  · rw [if_pos w] at h; cases h
  · rw [if_neg w] at h
    refine ⟨?_, _, rfl, h⟩
    rw [Int32.lt_iff_toInt_lt] at w
    rw [Int32.le_iff_toInt_le]
    omega
/-- the script at b, and what dice answers of it -/
def dcOk (l : Launch) (s : State) (b : Nat) (dc : Int32 → Int32) (A : Nat → Prop) : Prop := ∃ (L : Nat) (xs : Nat → Int32), va_X b L xs s s.heap ∧ b < s.heap.size ∧ ¬ A b ∧ ∀ k, 0 ≤ k → dMI l b k (dc k) L xs
section DROWS
variable {p : Program} {l : Launch} {e : Env} {R : Room} {s : State} {m : MethodId} {args : Array Value} {below : List Frame} {meth : Method} {c : Code} {H : Heap} {locs : List Loc} {Q : State → Prop}
variable {pc : Nat} {ls : Array Slot} {rest st0 : List Value} {ws ws' Ts : List Cond} {cc bytes : ByteArray} {maxL nL index n sz mc ms ce sl : Nat} {ret : Option FieldType} {own : String} {G : cG} {S : CS} {D : CD} {As : List Value} {b : Nat} {dc : Int32 → Int32}
theorem g_SD {k t : Int32} (hC : cC own p s m args meth c Ts cc nL ret G S sz) (hP : va_P G.1 vwCl (cW G S D) H) (hS : va_S (cA G S sz) s.heap H locs) (hd : dcOk l s b dc (cA G S sz)) (hk : 0 ≤ k) {ret' : Option FieldType} (cw : CallB R s args own index yL_dice bytes maxL ret' wL_dice dRm 0 0 n ∧ (Cond.static yL_dice).before args s = true) (hA : As = [.ref b, .int k]) (hn : As.length = n) (hsize : ls.size = nL) (hst : st0 = As.reverse ++ rest) (hr8 : (rest.map fun v => v.category).sum ≤ 8) (hdg : decode cc pc = .ok (.invokestatic index, 3)) (hR : ce + 0 ≤ R.cells ∧ sl + 0 ≤ R.slots) (ht : t = dc k)
    (kk : ∀ (H1 : Heap) (locs1 : List Loc), va_P G.1 vwCl (cW G S D) H1 → va_S (cA G S sz) s.heap H1 locs1 → W p l e R s m args below meth c H1 locs1 ce sl Q (F0 m (pc + 3) ls (.int t :: rest))) : W p l e R s m args below meth c H locs ce sl Q (F0 m pc ls st0) := by
  obtain ⟨L, xs, hX, hbl, hbA, hM⟩ := hd
  subst ht hA
  have hsz : s.heap.size = sz := hC.2.2.2.2.2.2.2.2.2.1
  have hX1 : va_X b L xs s H := hX.kept (hS.2.1 b hbl hbA)
  refine va_calli (va_runS (As := [.ref b, .int k]) (rest := rest) (g := F0 m pc ls st0) (c_fix hC) (hM k hk H.size) cw ⟨fun a U g mk q => ?_, fun U hU hW => ?_⟩ rfl hn hsize hst (lv_room hr8) hdg hR) hS (fun q h1 h2 => absurd h1 (Nat.not_lt.mpr h2)) (fun q h => c_sub hC hS q (cA_mem.mpr (Or.inr h))) (fun r1 u t H1 locs1 ht hvm hw hB hz1 hk1 hS1 => ?_)
  · obtain ⟨q0, q1, q2⟩ := q
    exact ⟨q0, q1, va_X.moved (u := U) (U := U.calling g mk a) (Vm.Alike.refl U.vm) q2⟩
  · exact ⟨rfl, by rw [hU], by rw [hU]; exact va_X.moved hW.alike hX1⟩
  · cases hw
    exact kk H1 locs1 (hP.kept (fun i x hx => hk1 x.1 (hP i x hx).lt (fun h => absurd (hP i x hx).lt (Nat.not_lt.mpr h)))) hS1
end DROWS

