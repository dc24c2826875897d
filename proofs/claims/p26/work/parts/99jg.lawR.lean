theorem dL_isRefused_0 : decode cL_isRefused 0 = .ok (.iload_n 2, 1) := by decide +kernel
theorem dL_isRefused_1 : decode cL_isRefused 1 = .ok (.iconst 2, 1) := by decide +kernel
theorem dL_isRefused_2 : decode cL_isRefused 2 = .ok (.irem, 1) := by decide +kernel
theorem dL_isRefused_3 : decode cL_isRefused 3 = .ok (.ifCond .ne 7, 3) := by decide +kernel
theorem dL_isRefused_6 : decode cL_isRefused 6 = .ok (.iconst 1, 1) := by decide +kernel
theorem dL_isRefused_7 : decode cL_isRefused 7 = .ok (.goto 4, 3) := by decide +kernel
theorem dL_isRefused_10 : decode cL_isRefused 10 = .ok (.iconst 0, 1) := by decide +kernel
theorem dL_isRefused_11 : decode cL_isRefused 11 = .ok (.istore_n 3, 1) := by decide +kernel
theorem dL_isRefused_12 : decode cL_isRefused 12 = .ok (.iload_n 3, 1) := by decide +kernel
theorem dL_isRefused_13 : decode cL_isRefused 13 = .ok (.ifCond .eq 12, 3) := by decide +kernel
theorem dL_isRefused_16 : decode cL_isRefused 16 = .ok (.iconst (-1), 1) := by decide +kernel
theorem dL_isRefused_17 : decode cL_isRefused 17 = .ok (.iload_n 2, 1) := by decide +kernel
theorem dL_isRefused_18 : decode cL_isRefused 18 = .ok (.bipush 50, 2) := by decide +kernel
theorem dL_isRefused_20 : decode cL_isRefused 20 = .ok (.irem, 1) := by decide +kernel
theorem dL_isRefused_21 : decode cL_isRefused 21 = .ok (.isub, 1) := by decide +kernel
theorem dL_isRefused_22 : decode cL_isRefused 22 = .ok (.goto 10, 3) := by decide +kernel
theorem dL_isRefused_25 : decode cL_isRefused 25 = .ok (.bipush 101, 2) := by decide +kernel
theorem dL_isRefused_27 : decode cL_isRefused 27 = .ok (.iload_n 2, 1) := by decide +kernel
theorem dL_isRefused_28 : decode cL_isRefused 28 = .ok (.bipush 50, 2) := by decide +kernel
theorem dL_isRefused_30 : decode cL_isRefused 30 = .ok (.irem, 1) := by decide +kernel
theorem dL_isRefused_31 : decode cL_isRefused 31 = .ok (.iadd, 1) := by decide +kernel
theorem dL_isRefused_32 : decode cL_isRefused 32 = .ok (.istore 4, 2) := by decide +kernel
theorem dL_isRefused_34 : decode cL_isRefused 34 = .ok (.iload_n 3, 1) := by decide +kernel
theorem dL_isRefused_35 : decode cL_isRefused 35 = .ok (.ifCond .eq 12, 3) := by decide +kernel
theorem dL_isRefused_38 : decode cL_isRefused 38 = .ok (.iconst (-1), 1) := by decide +kernel
theorem dL_isRefused_39 : decode cL_isRefused 39 = .ok (.iload_n 2, 1) := by decide +kernel
theorem dL_isRefused_40 : decode cL_isRefused 40 = .ok (.bipush 50, 2) := by decide +kernel
theorem dL_isRefused_42 : decode cL_isRefused 42 = .ok (.irem, 1) := by decide +kernel
theorem dL_isRefused_43 : decode cL_isRefused 43 = .ok (.isub, 1) := by decide +kernel
theorem dL_isRefused_44 : decode cL_isRefused 44 = .ok (.goto 11, 3) := by decide +kernel
theorem dL_isRefused_47 : decode cL_isRefused 47 = .ok (.aload_n 1, 1) := by decide +kernel
theorem dL_isRefused_48 : decode cL_isRefused 48 = .ok (.iconst 0, 1) := by decide +kernel
theorem dL_isRefused_49 : decode cL_isRefused 49 = .ok (.iaload, 1) := by decide +kernel
theorem dL_isRefused_50 : decode cL_isRefused 50 = .ok (.iload_n 2, 1) := by decide +kernel
theorem dL_isRefused_51 : decode cL_isRefused 51 = .ok (.bipush 50, 2) := by decide +kernel
theorem dL_isRefused_53 : decode cL_isRefused 53 = .ok (.irem, 1) := by decide +kernel
theorem dL_isRefused_54 : decode cL_isRefused 54 = .ok (.iadd, 1) := by decide +kernel
theorem dL_isRefused_55 : decode cL_isRefused 55 = .ok (.istore 5, 2) := by decide +kernel
theorem dL_isRefused_57 : decode cL_isRefused 57 = .ok (.aload_n 0, 1) := by decide +kernel
theorem dL_isRefused_58 : decode cL_isRefused 58 = .ok (.invokestatic 151, 3) := by decide +kernel
theorem dL_isRefused_61 : decode cL_isRefused 61 = .ok (.lstore 6, 2) := by decide +kernel
theorem dL_isRefused_63 : decode cL_isRefused 63 = .ok (.aload_n 0, 1) := by decide +kernel
theorem dL_isRefused_64 : decode cL_isRefused 64 = .ok (.iload 4, 2) := by decide +kernel
theorem dL_isRefused_66 : decode cL_isRefused 66 = .ok (.iconst 1, 1) := by decide +kernel
theorem dL_isRefused_67 : decode cL_isRefused 67 = .ok (.iconst 2, 1) := by decide +kernel
theorem dL_isRefused_68 : decode cL_isRefused 68 = .ok (.iconst 3, 1) := by decide +kernel
theorem dL_isRefused_69 : decode cL_isRefused 69 = .ok (.invokestatic 155, 3) := by decide +kernel
theorem dL_isRefused_72 : decode cL_isRefused 72 = .ok (.sipush (-602), 3) := by decide +kernel
theorem dL_isRefused_75 : decode cL_isRefused 75 = .ok (.if_icmp .ne 178, 3) := by decide +kernel
theorem dL_isRefused_78 : decode cL_isRefused 78 = .ok (.aload_n 0, 1) := by decide +kernel
theorem dL_isRefused_79 : decode cL_isRefused 79 = .ok (.iconst 1, 1) := by decide +kernel
theorem dL_isRefused_80 : decode cL_isRefused 80 = .ok (.iload 4, 2) := by decide +kernel
theorem dL_isRefused_82 : decode cL_isRefused 82 = .ok (.iconst 2, 1) := by decide +kernel
theorem dL_isRefused_83 : decode cL_isRefused 83 = .ok (.iconst 3, 1) := by decide +kernel
theorem dL_isRefused_84 : decode cL_isRefused 84 = .ok (.invokestatic 155, 3) := by decide +kernel
theorem dL_isRefused_87 : decode cL_isRefused 87 = .ok (.sipush (-602), 3) := by decide +kernel
theorem dL_isRefused_90 : decode cL_isRefused 90 = .ok (.if_icmp .ne 163, 3) := by decide +kernel
theorem dL_isRefused_93 : decode cL_isRefused 93 = .ok (.aload_n 0, 1) := by decide +kernel
theorem dL_isRefused_94 : decode cL_isRefused 94 = .ok (.iconst 1, 1) := by decide +kernel
theorem dL_isRefused_95 : decode cL_isRefused 95 = .ok (.iconst 2, 1) := by decide +kernel
theorem dL_isRefused_96 : decode cL_isRefused 96 = .ok (.iload 4, 2) := by decide +kernel
theorem dL_isRefused_98 : decode cL_isRefused 98 = .ok (.iconst 3, 1) := by decide +kernel
theorem dL_isRefused_99 : decode cL_isRefused 99 = .ok (.invokestatic 155, 3) := by decide +kernel
theorem dL_isRefused_102 : decode cL_isRefused 102 = .ok (.sipush (-602), 3) := by decide +kernel
theorem dL_isRefused_105 : decode cL_isRefused 105 = .ok (.if_icmp .ne 148, 3) := by decide +kernel
theorem dL_isRefused_108 : decode cL_isRefused 108 = .ok (.aload_n 0, 1) := by decide +kernel
theorem dL_isRefused_109 : decode cL_isRefused 109 = .ok (.iconst 1, 1) := by decide +kernel
theorem dL_isRefused_110 : decode cL_isRefused 110 = .ok (.iconst 2, 1) := by decide +kernel
theorem dL_isRefused_111 : decode cL_isRefused 111 = .ok (.iconst 3, 1) := by decide +kernel
theorem dL_isRefused_112 : decode cL_isRefused 112 = .ok (.iload 4, 2) := by decide +kernel
theorem dL_isRefused_114 : decode cL_isRefused 114 = .ok (.invokestatic 155, 3) := by decide +kernel
theorem dL_isRefused_117 : decode cL_isRefused 117 = .ok (.sipush (-602), 3) := by decide +kernel
theorem dL_isRefused_120 : decode cL_isRefused 120 = .ok (.if_icmp .ne 133, 3) := by decide +kernel
theorem dL_isRefused_123 : decode cL_isRefused 123 = .ok (.aload_n 0, 1) := by decide +kernel
theorem dL_isRefused_124 : decode cL_isRefused 124 = .ok (.iload_n 2, 1) := by decide +kernel
theorem dL_isRefused_125 : decode cL_isRefused 125 = .ok (.bipush 101, 2) := by decide +kernel
theorem dL_isRefused_127 : decode cL_isRefused 127 = .ok (.irem, 1) := by decide +kernel
theorem dL_isRefused_128 : decode cL_isRefused 128 = .ok (.iconst 5, 1) := by decide +kernel
theorem dL_isRefused_129 : decode cL_isRefused 129 = .ok (.iload_n 2, 1) := by decide +kernel
theorem dL_isRefused_130 : decode cL_isRefused 130 = .ok (.bipush 101, 2) := by decide +kernel
theorem dL_isRefused_132 : decode cL_isRefused 132 = .ok (.irem, 1) := by decide +kernel
theorem dL_isRefused_133 : decode cL_isRefused 133 = .ok (.iconst 5, 1) := by decide +kernel
theorem dL_isRefused_134 : decode cL_isRefused 134 = .ok (.invokestatic 155, 3) := by decide +kernel
theorem dL_isRefused_137 : decode cL_isRefused 137 = .ok (.sipush (-602), 3) := by decide +kernel
theorem dL_isRefused_140 : decode cL_isRefused 140 = .ok (.if_icmp .ne 113, 3) := by decide +kernel
theorem dL_isRefused_143 : decode cL_isRefused 143 = .ok (.aload_n 1, 1) := by decide +kernel
theorem dL_isRefused_144 : decode cL_isRefused 144 = .ok (.iconst 0, 1) := by decide +kernel
theorem dL_isRefused_145 : decode cL_isRefused 145 = .ok (.iaload, 1) := by decide +kernel
theorem dL_isRefused_146 : decode cL_isRefused 146 = .ok (.bipush 12, 2) := by decide +kernel
theorem dL_isRefused_148 : decode cL_isRefused 148 = .ok (.if_icmp .lt 17, 3) := by decide +kernel
theorem dL_isRefused_151 : decode cL_isRefused 151 = .ok (.aload_n 0, 1) := by decide +kernel
theorem dL_isRefused_152 : decode cL_isRefused 152 = .ok (.iconst 0, 1) := by decide +kernel
theorem dL_isRefused_153 : decode cL_isRefused 153 = .ok (.iconst 0, 1) := by decide +kernel
theorem dL_isRefused_154 : decode cL_isRefused 154 = .ok (.iconst 1, 1) := by decide +kernel
theorem dL_isRefused_155 : decode cL_isRefused 155 = .ok (.iconst 1, 1) := by decide +kernel
theorem dL_isRefused_156 : decode cL_isRefused 156 = .ok (.invokestatic 155, 3) := by decide +kernel
theorem dL_isRefused_159 : decode cL_isRefused 159 = .ok (.sipush (-603), 3) := by decide +kernel
theorem dL_isRefused_162 : decode cL_isRefused 162 = .ok (.if_icmp .ne 91, 3) := by decide +kernel
theorem dL_isRefused_165 : decode cL_isRefused 165 = .ok (.aload_n 0, 1) := by decide +kernel
theorem dL_isRefused_166 : decode cL_isRefused 166 = .ok (.iconst 0, 1) := by decide +kernel
theorem dL_isRefused_167 : decode cL_isRefused 167 = .ok (.iload 5, 2) := by decide +kernel
theorem dL_isRefused_169 : decode cL_isRefused 169 = .ok (.invokestatic 120, 3) := by decide +kernel
theorem dL_isRefused_172 : decode cL_isRefused 172 = .ok (.sipush (-601), 3) := by decide +kernel
theorem dL_isRefused_175 : decode cL_isRefused 175 = .ok (.if_icmp .ne 78, 3) := by decide +kernel
theorem dL_isRefused_178 : decode cL_isRefused 178 = .ok (.aload_n 0, 1) := by decide +kernel
theorem dL_isRefused_179 : decode cL_isRefused 179 = .ok (.iconst 0, 1) := by decide +kernel
theorem dL_isRefused_180 : decode cL_isRefused 180 = .ok (.iload 4, 2) := by decide +kernel
theorem dL_isRefused_182 : decode cL_isRefused 182 = .ok (.iconst 5, 1) := by decide +kernel
theorem dL_isRefused_183 : decode cL_isRefused 183 = .ok (.invokestatic 143, 3) := by decide +kernel
theorem dL_isRefused_186 : decode cL_isRefused 186 = .ok (.sipush (-602), 3) := by decide +kernel
theorem dL_isRefused_189 : decode cL_isRefused 189 = .ok (.if_icmp .ne 64, 3) := by decide +kernel
theorem dL_isRefused_192 : decode cL_isRefused 192 = .ok (.aload_n 0, 1) := by decide +kernel
theorem dL_isRefused_193 : decode cL_isRefused 193 = .ok (.iconst 0, 1) := by decide +kernel
theorem dL_isRefused_194 : decode cL_isRefused 194 = .ok (.iconst 5, 1) := by decide +kernel
theorem dL_isRefused_195 : decode cL_isRefused 195 = .ok (.iload 4, 2) := by decide +kernel
theorem dL_isRefused_197 : decode cL_isRefused 197 = .ok (.invokestatic 143, 3) := by decide +kernel
theorem dL_isRefused_200 : decode cL_isRefused 200 = .ok (.sipush (-602), 3) := by decide +kernel
theorem dL_isRefused_203 : decode cL_isRefused 203 = .ok (.if_icmp .ne 50, 3) := by decide +kernel
theorem dL_isRefused_206 : decode cL_isRefused 206 = .ok (.aload_n 0, 1) := by decide +kernel
theorem dL_isRefused_207 : decode cL_isRefused 207 = .ok (.iconst 1, 1) := by decide +kernel
theorem dL_isRefused_208 : decode cL_isRefused 208 = .ok (.iload 4, 2) := by decide +kernel
theorem dL_isRefused_210 : decode cL_isRefused 210 = .ok (.iconst 0, 1) := by decide +kernel
theorem dL_isRefused_211 : decode cL_isRefused 211 = .ok (.invokestatic 143, 3) := by decide +kernel
theorem dL_isRefused_214 : decode cL_isRefused 214 = .ok (.sipush (-602), 3) := by decide +kernel
theorem dL_isRefused_217 : decode cL_isRefused 217 = .ok (.if_icmp .ne 36, 3) := by decide +kernel
theorem dL_isRefused_220 : decode cL_isRefused 220 = .ok (.aload_n 0, 1) := by decide +kernel
theorem dL_isRefused_221 : decode cL_isRefused 221 = .ok (.iconst 2, 1) := by decide +kernel
theorem dL_isRefused_222 : decode cL_isRefused 222 = .ok (.iload 4, 2) := by decide +kernel
theorem dL_isRefused_224 : decode cL_isRefused 224 = .ok (.iconst (-1), 1) := by decide +kernel
theorem dL_isRefused_225 : decode cL_isRefused 225 = .ok (.invokestatic 143, 3) := by decide +kernel
theorem dL_isRefused_228 : decode cL_isRefused 228 = .ok (.sipush (-602), 3) := by decide +kernel
theorem dL_isRefused_231 : decode cL_isRefused 231 = .ok (.if_icmp .ne 22, 3) := by decide +kernel
theorem dL_isRefused_234 : decode cL_isRefused 234 = .ok (.aload_n 0, 1) := by decide +kernel
theorem dL_isRefused_235 : decode cL_isRefused 235 = .ok (.iconst 3, 1) := by decide +kernel
theorem dL_isRefused_236 : decode cL_isRefused 236 = .ok (.iload 5, 2) := by decide +kernel
theorem dL_isRefused_238 : decode cL_isRefused 238 = .ok (.iload 5, 2) := by decide +kernel
theorem dL_isRefused_240 : decode cL_isRefused 240 = .ok (.invokestatic 143, 3) := by decide +kernel
theorem dL_isRefused_243 : decode cL_isRefused 243 = .ok (.sipush (-601), 3) := by decide +kernel
theorem dL_isRefused_246 : decode cL_isRefused 246 = .ok (.if_icmp .ne 7, 3) := by decide +kernel
theorem dL_isRefused_249 : decode cL_isRefused 249 = .ok (.iconst 1, 1) := by decide +kernel
theorem dL_isRefused_250 : decode cL_isRefused 250 = .ok (.goto 4, 3) := by decide +kernel
theorem dL_isRefused_253 : decode cL_isRefused 253 = .ok (.iconst 0, 1) := by decide +kernel
theorem dL_isRefused_254 : decode cL_isRefused 254 = .ok (.istore 8, 2) := by decide +kernel
theorem dL_isRefused_256 : decode cL_isRefused 256 = .ok (.iload 8, 2) := by decide +kernel
theorem dL_isRefused_258 : decode cL_isRefused 258 = .ok (.ifCond .eq 51, 3) := by decide +kernel
theorem dL_isRefused_261 : decode cL_isRefused 261 = .ok (.aload_n 1, 1) := by decide +kernel
theorem dL_isRefused_262 : decode cL_isRefused 262 = .ok (.iconst 0, 1) := by decide +kernel
theorem dL_isRefused_263 : decode cL_isRefused 263 = .ok (.iaload, 1) := by decide +kernel
theorem dL_isRefused_264 : decode cL_isRefused 264 = .ok (.ifCond .eq 31, 3) := by decide +kernel
theorem dL_isRefused_267 : decode cL_isRefused 267 = .ok (.aload_n 0, 1) := by decide +kernel
theorem dL_isRefused_268 : decode cL_isRefused 268 = .ok (.iconst 3, 1) := by decide +kernel
theorem dL_isRefused_269 : decode cL_isRefused 269 = .ok (.iconst 0, 1) := by decide +kernel
theorem dL_isRefused_270 : decode cL_isRefused 270 = .ok (.iload 5, 2) := by decide +kernel
theorem dL_isRefused_272 : decode cL_isRefused 272 = .ok (.invokestatic 143, 3) := by decide +kernel
theorem dL_isRefused_275 : decode cL_isRefused 275 = .ok (.sipush (-601), 3) := by decide +kernel
theorem dL_isRefused_278 : decode cL_isRefused 278 = .ok (.if_icmp .ne 31, 3) := by decide +kernel
theorem dL_isRefused_281 : decode cL_isRefused 281 = .ok (.aload_n 0, 1) := by decide +kernel
theorem dL_isRefused_282 : decode cL_isRefused 282 = .ok (.iconst 3, 1) := by decide +kernel
theorem dL_isRefused_283 : decode cL_isRefused 283 = .ok (.iload 5, 2) := by decide +kernel
theorem dL_isRefused_285 : decode cL_isRefused 285 = .ok (.iconst 0, 1) := by decide +kernel
theorem dL_isRefused_286 : decode cL_isRefused 286 = .ok (.invokestatic 143, 3) := by decide +kernel
theorem dL_isRefused_289 : decode cL_isRefused 289 = .ok (.sipush (-601), 3) := by decide +kernel
theorem dL_isRefused_292 : decode cL_isRefused 292 = .ok (.if_icmp .ne 17, 3) := by decide +kernel
theorem dL_isRefused_295 : decode cL_isRefused 295 = .ok (.aload_n 0, 1) := by decide +kernel
theorem dL_isRefused_296 : decode cL_isRefused 296 = .ok (.invokestatic 151, 3) := by decide +kernel
theorem dL_isRefused_299 : decode cL_isRefused 299 = .ok (.lload 6, 2) := by decide +kernel
theorem dL_isRefused_301 : decode cL_isRefused 301 = .ok (.lcmp, 1) := by decide +kernel
theorem dL_isRefused_302 : decode cL_isRefused 302 = .ok (.ifCond .ne 7, 3) := by decide +kernel
theorem dL_isRefused_305 : decode cL_isRefused 305 = .ok (.iconst 1, 1) := by decide +kernel
theorem dL_isRefused_306 : decode cL_isRefused 306 = .ok (.goto 4, 3) := by decide +kernel
theorem dL_isRefused_309 : decode cL_isRefused 309 = .ok (.iconst 0, 1) := by decide +kernel
theorem dL_isRefused_310 : decode cL_isRefused 310 = .ok (.ireturn, 1) := by decide +kernel
def wL_isRefused : List Cond := Cond.code yL_isRefused cL_isRefused 9 (some .boolean) :: WA
def f_L_isRefused_b295 (F : Nat) (S : CS) (D : CD) (x0 : Nat) (x6 : Int64) : Option (CD × Int32) := cal (f_L_all F S D x0) fun t2 => (if (lg_cmp t2 x6) = 0 then okB 1 (some (D, 1)) else okB 0 (some (D, 0)))
def f_L_isRefused_b254 (F : Nat) (S : CS) (D : CD) (x0 : Nat) (x1 : Nat) (x5 : Int32) (x6 : Int64) (s0 : Int32) : Option (CD × Int32) := (if s0 = 0 then okB 0 (some (D, 0)) else ckK S x1 8 <| rdI (S.2.2.2 x1) (D.2.2.1 x1) 0 fun t4 => (if t4 = 0 then f_L_isRefused_b295 F S D x0 x6 else caM (f_L_at F S D x0 3 0 x5) fun D9 t10 => (if t10 = ((-601)) then caM (f_L_at F S D9 x0 3 x5 0) fun D14 t15 => (if t15 = ((-601)) then f_L_isRefused_b295 F S D14 x0 x6 else okB 0 (some (D14, 0))) else okB 0 (some (D9, 0)))))
def f_L_isRefused_b165 (F : Nat) (S : CS) (D : CD) (x0 : Nat) (x1 : Nat) (x4 : Int32) (x5 : Int32) (x6 : Int64) : Option (CD × Int32) := caM (f_L_of F S D x0 0 x5) fun D2 t3 => (if t3 = ((-601)) then caM (f_L_at F S D2 x0 0 x4 5) fun D6 t7 => (if t7 = ((-602)) then caM (f_L_at F S D6 x0 0 5 x4) fun D10 t11 => (if t11 = ((-602)) then caM (f_L_at F S D10 x0 1 x4 0) fun D14 t15 => (if t15 = ((-602)) then caM (f_L_at F S D14 x0 2 x4 ((-1))) fun D18 t19 => (if t19 = ((-602)) then caM (f_L_at F S D18 x0 3 x5 x5) fun D22 t23 => (if t23 = ((-601)) then f_L_isRefused_b254 F S D22 x0 x1 x5 x6 1 else f_L_isRefused_b254 F S D22 x0 x1 x5 x6 0) else f_L_isRefused_b254 F S D18 x0 x1 x5 x6 0) else f_L_isRefused_b254 F S D14 x0 x1 x5 x6 0) else f_L_isRefused_b254 F S D10 x0 x1 x5 x6 0) else f_L_isRefused_b254 F S D6 x0 x1 x5 x6 0) else f_L_isRefused_b254 F S D2 x0 x1 x5 x6 0)
def f_L_isRefused_b55 (F : Nat) (S : CS) (D : CD) (x0 : Nat) (x1 : Nat) (x2 : Int32) (x4 : Int32) (s0 : Int32) : Option (CD × Int32) := cal (f_L_all F S D x0) fun t2 => caM (f_L_add F S D x0 x4 1 2 3) fun D4 t5 => (if t5 = ((-602)) then caM (f_L_add F S D4 x0 1 x4 2 3) fun D8 t9 => (if t9 = ((-602)) then caM (f_L_add F S D8 x0 1 2 x4 3) fun D12 t13 => (if t13 = ((-602)) then caM (f_L_add F S D12 x0 1 2 3 x4) fun D16 t17 => (if t17 = ((-602)) then caM (f_L_add F S D16 x0 (x2 - x2 / 101 * 101) 5 (x2 - x2 / 101 * 101) 5) fun D20 t21 => (if t21 = ((-602)) then ckK S x1 8 <| rdI (S.2.2.2 x1) (D20.2.2.1 x1) 0 fun t24 => (if t24 < 12 then f_L_isRefused_b165 F S D20 x0 x1 x4 s0 t2 else caM (f_L_add F S D20 x0 0 0 1 1) fun D29 t30 => (if t30 = ((-603)) then f_L_isRefused_b165 F S D29 x0 x1 x4 s0 t2 else f_L_isRefused_b254 F S D29 x0 x1 s0 t2 0)) else f_L_isRefused_b254 F S D20 x0 x1 s0 t2 0) else f_L_isRefused_b254 F S D16 x0 x1 s0 t2 0) else f_L_isRefused_b254 F S D12 x0 x1 s0 t2 0) else f_L_isRefused_b254 F S D8 x0 x1 s0 t2 0) else f_L_isRefused_b254 F S D4 x0 x1 s0 t2 0)
def f_L_isRefused_b32 (F : Nat) (S : CS) (D : CD) (x0 : Nat) (x1 : Nat) (x2 : Int32) (x3 : Int32) (s0 : Int32) : Option (CD × Int32) := (if x3 = 0 then ckK S x1 8 <| rdI (S.2.2.2 x1) (D.2.2.1 x1) 0 fun t3 => f_L_isRefused_b55 F S D x0 x1 x2 s0 (t3 + (x2 - x2 / 50 * 50)) else f_L_isRefused_b55 F S D x0 x1 x2 s0 (((-1)) - (x2 - x2 / 50 * 50)))
def f_L_isRefused_b11 (F : Nat) (S : CS) (D : CD) (x0 : Nat) (x1 : Nat) (x2 : Int32) (s0 : Int32) : Option (CD × Int32) := (if s0 = 0 then f_L_isRefused_b32 F S D x0 x1 x2 s0 (101 + (x2 - x2 / 50 * 50)) else f_L_isRefused_b32 F S D x0 x1 x2 s0 (((-1)) - (x2 - x2 / 50 * 50)))
def f_L_isRefused (F : Nat) (S : CS) (D : CD) (a1 : Nat) (a2 : Nat) (a3 : Int32) : Option (CD × Int32) := (if (a3 - a3 / 2 * 2) = 0 then f_L_isRefused_b11 F S D a1 a2 a3 1 else f_L_isRefused_b11 F S D a1 a2 a3 0)
set_option maxRecDepth 100000 in
set_option maxHeartbeats 4000000 in
theorem m_L_isRefused (l : Launch) (hfl : l.stackTraces = false) (G : cG) (F : Nat) (S : CS) (z9 : Nat × Nat) (D D2 : CD) (a1 : Nat) (a2 : Nat) (a3 : Int32) (r : Int32) (h : f_L_isRefused F S D a1 a2 a3 = some (D2, r)) : lMI l yL_isRefused wL_isRefused ({ frames := 11, cells := 14, slots := 84, locals := 430 }) G S z9 [.ref a1, .ref a2, .int a3] D D2 r 14 84 := by
  refine lBody (cc := cL_isRefused) (maxL := 9) (ret := (some .boolean)) (by decide) rfl rfl ?_
  intro sz p e s m below meth c hC hv
  have hC0 := hC
  obtain ⟨hx, hb, -, hts, hown, -, hml, -, -, -⟩ := hC0
  have hP := hv.1.1.2.1
  have hv := lPr_of hv
  have hS : va_S (cA G S sz) s.heap s.heap [] := va_S.rf
  have b295 : ∀ (H : Heap) (locs : List Loc) (ls : Array Slot) (D : CD) (x0 : Nat) (x6 : Int64), va_P G.1 vwCl (cW G S D) H → va_S (cA G S sz) s.heap H locs → lv_has ls 9 [(0, .ref x0), (6, .long x6)] → f_L_isRefused_b295 F S D x0 x6 = some (D2, r) → W p l e (headSpec wL_isRefused ({ frames := 11, cells := 14, slots := 84, locals := 430 })).room s m ([.ref a1, .ref a2, .int a3] : List Value).toArray below meth c H locs 14 84 (lQI below G S D2 sz ([.ref a1, .ref a2, .int a3] : List Value).toArray s r 14 84) (F0 m 295 ls []) := by
    intro H locs ls D x0 x6 hP hS hl h
    unfold f_L_isRefused_b295 at h
    refine lv_aload_n hx hb dL_isRefused_295 rfl (lv_at hl 0 rfl) ?_
    obtain ⟨t2, e1, h⟩ := cal_el h
    refine g_SL (As := [.ref x0]) (rest := []) hC hP hS (m_L_all l G F S D x0 t2 e1) (va_cwS 1 hts (gSA wa_263 wa_264 wa_233 wa_203 (fun w h => h)) rfl rfl rfl (by decide +kernel) ⟨Nat.le_of_ble_eq_true rfl, Nat.le_of_ble_eq_true rfl⟩) rfl hl.1 rfl (Nat.le_of_ble_eq_true rfl) dL_isRefused_296 ⟨Nat.le_of_ble_eq_true rfl, Nat.le_of_ble_eq_true rfl⟩ (fun H locs hP hS => ?_)
    refine lv_lload hx hb dL_isRefused_299 (lv_at hl 1 rfl) ?_
    refine W.lcmp hx hb dL_isRefused_301 ?_
    refine lv_if_ne (tgt := 309) hx hb dL_isRefused_302 (by decide) (fun u3 => ?_) (fun u3 => ?_)
    · have h := ite_f u3 h
      refine lv_iconst (v := 0) hx hb dL_isRefused_309 (by decide) ?_
      obtain ⟨z4, h⟩ := okB_el h
      cases h
      exact g_zret hC hP hS z4 rfl (Nat.le_of_ble_eq_true rfl) (Nat.le_of_ble_eq_true rfl) dL_isRefused_310
    · have h := ite_t u3 h
      refine lv_iconst (v := 1) hx hb dL_isRefused_305 (by decide) ?_
      refine lv_goto (tgt := 310) hx hb dL_isRefused_306 (by decide) ?_
      obtain ⟨z5, h⟩ := okB_el h
      cases h
      exact g_zret hC hP hS z5 rfl (Nat.le_of_ble_eq_true rfl) (Nat.le_of_ble_eq_true rfl) dL_isRefused_310
  have b254 : ∀ (H : Heap) (locs : List Loc) (ls : Array Slot) (D : CD) (x0 : Nat) (x1 : Nat) (x5 : Int32) (x6 : Int64) (s0 : Int32), va_P G.1 vwCl (cW G S D) H → va_S (cA G S sz) s.heap H locs → lv_has ls 9 [(0, .ref x0), (1, .ref x1), (5, .int x5), (6, .long x6)] → f_L_isRefused_b254 F S D x0 x1 x5 x6 s0 = some (D2, r) → W p l e (headSpec wL_isRefused ({ frames := 11, cells := 14, slots := 84, locals := 430 })).room s m ([.ref a1, .ref a2, .int a3] : List Value).toArray below meth c H locs 12 72 (lQI below G S D2 sz ([.ref a1, .ref a2, .int a3] : List Value).toArray s r 14 84) (F0 m 254 ls [.int s0]) := by
    intro H locs ls D x0 x1 x5 x6 s0 hP hS hl h
    unfold f_L_isRefused_b254 at h
    refine lv_istore (lv' := [(8, .int s0), (0, .ref x0), (1, .ref x1), (5, .int x5), (6, .long x6)]) hx hb dL_isRefused_254 hl (by decide) rfl (fun ls hl => ?_)
    refine lv_iload hx hb dL_isRefused_256 (lv_at hl 0 rfl) ?_
    refine lv_if_eq (tgt := 309) hx hb dL_isRefused_258 (by decide) (fun u1 => ?_) (fun u1 => ?_)
    · have h := ite_t u1 h
      refine lv_iconst (v := 0) hx hb dL_isRefused_309 (by decide) ?_
      obtain ⟨z2, h⟩ := okB_el h
      cases h
      exact g_zret hC hP hS z2 rfl (Nat.le_of_ble_eq_true rfl) (Nat.le_of_ble_eq_true rfl) dL_isRefused_310
    · have h := ite_f u1 h
      refine lv_aload_n hx hb dL_isRefused_261 rfl (lv_at hl 2 rfl) ?_
      refine lv_iconst (v := 0) hx hb dL_isRefused_262 (by decide) ?_
      obtain ⟨z3, h⟩ := ckK_el h
      obtain ⟨y5, t4, e6, h⟩ := rdI_el h
      refine g_ild hC hP z3.1 z3.2 y5 e6 dL_isRefused_263 ?_
      refine lv_if_eq (tgt := 295) hx hb dL_isRefused_264 (by decide) (fun u7 => ?_) (fun u7 => ?_)
      · have h := ite_t u7 h
        refine W.widen (k := 14) (n := 84) (Nat.le_of_ble_eq_true rfl) (Nat.le_of_ble_eq_true rfl) ?_
        exact b295 _ _ _ D x0 x6 hP hS (lv_sub hl [1, 4] rfl) h
      · have h := ite_f u7 h
        refine lv_aload_n hx hb dL_isRefused_267 rfl (lv_at hl 1 rfl) ?_
        refine lv_iconst (v := 3) hx hb dL_isRefused_268 (by decide) ?_
        refine lv_iconst (v := 0) hx hb dL_isRefused_269 (by decide) ?_
        refine lv_iload hx hb dL_isRefused_270 (lv_at hl 3 rfl) ?_
        obtain ⟨D9, t10, e8, h⟩ := caM_el h
        refine g_SX (As := [.ref x0, .int 3, .int 0, .int x5]) (rest := []) (mc := 1) (ms := 6) hC hv hP hS (m_L_at l hfl G F S z9 D D9 x0 3 0 x5 t10 e8) (vx_cwSW 4 hts (gSX wa_256 wa_257 wa_233 wa_188) rfl rfl rfl (by decide +kernel) ⟨Nat.le_of_ble_eq_true rfl, Nat.le_of_ble_eq_true rfl⟩) rfl hl.1 rfl (Nat.le_of_ble_eq_true rfl) dL_isRefused_272 ⟨Nat.le_of_ble_eq_true rfl, Nat.le_of_ble_eq_true rfl⟩ (fun H locs hP hS => ?_)
        refine lv_sipush (v := (-601)) hx hb dL_isRefused_275 (by decide) ?_
        refine lv_icmp_ne (tgt := 309) hx hb dL_isRefused_278 (by decide) (fun u11 => ?_) (fun u11 => ?_)
        · have h := ite_f u11 h
          refine lv_iconst (v := 0) hx hb dL_isRefused_309 (by decide) ?_
          obtain ⟨z12, h⟩ := okB_el h
          cases h
          exact g_zret hC hP hS z12 rfl (Nat.le_of_ble_eq_true rfl) (Nat.le_of_ble_eq_true rfl) dL_isRefused_310
        · have h := ite_t u11 h
          refine lv_aload_n hx hb dL_isRefused_281 rfl (lv_at hl 1 rfl) ?_
          refine lv_iconst (v := 3) hx hb dL_isRefused_282 (by decide) ?_
          refine lv_iload hx hb dL_isRefused_283 (lv_at hl 3 rfl) ?_
          refine lv_iconst (v := 0) hx hb dL_isRefused_285 (by decide) ?_
          obtain ⟨D14, t15, e13, h⟩ := caM_el h
          refine g_SX (As := [.ref x0, .int 3, .int x5, .int 0]) (rest := []) (mc := 1) (ms := 6) hC hv hP hS (m_L_at l hfl G F S z9 D9 D14 x0 3 x5 0 t15 e13) (vx_cwSW 4 hts (gSX wa_256 wa_257 wa_233 wa_188) rfl rfl rfl (by decide +kernel) ⟨Nat.le_of_ble_eq_true rfl, Nat.le_of_ble_eq_true rfl⟩) rfl hl.1 rfl (Nat.le_of_ble_eq_true rfl) dL_isRefused_286 ⟨Nat.le_of_ble_eq_true rfl, Nat.le_of_ble_eq_true rfl⟩ (fun H locs hP hS => ?_)
          refine lv_sipush (v := (-601)) hx hb dL_isRefused_289 (by decide) ?_
          refine lv_icmp_ne (tgt := 309) hx hb dL_isRefused_292 (by decide) (fun u16 => ?_) (fun u16 => ?_)
          · have h := ite_f u16 h
            refine lv_iconst (v := 0) hx hb dL_isRefused_309 (by decide) ?_
            obtain ⟨z17, h⟩ := okB_el h
            cases h
            exact g_zret hC hP hS z17 rfl (Nat.le_of_ble_eq_true rfl) (Nat.le_of_ble_eq_true rfl) dL_isRefused_310
          · have h := ite_t u16 h
            refine W.widen (k := 14) (n := 84) (Nat.le_of_ble_eq_true rfl) (Nat.le_of_ble_eq_true rfl) ?_
            exact b295 _ _ _ D14 x0 x6 hP hS (lv_sub hl [1, 4] rfl) h
  have b165 : ∀ (H : Heap) (locs : List Loc) (ls : Array Slot) (D : CD) (x0 : Nat) (x1 : Nat) (x4 : Int32) (x5 : Int32) (x6 : Int64), va_P G.1 vwCl (cW G S D) H → va_S (cA G S sz) s.heap H locs → lv_has ls 9 [(0, .ref x0), (1, .ref x1), (4, .int x4), (5, .int x5), (6, .long x6)] → f_L_isRefused_b165 F S D x0 x1 x4 x5 x6 = some (D2, r) → W p l e (headSpec wL_isRefused ({ frames := 11, cells := 14, slots := 84, locals := 430 })).room s m ([.ref a1, .ref a2, .int a3] : List Value).toArray below meth c H locs 6 36 (lQI below G S D2 sz ([.ref a1, .ref a2, .int a3] : List Value).toArray s r 14 84) (F0 m 165 ls []) := by
    intro H locs ls D x0 x1 x4 x5 x6 hP hS hl h
    unfold f_L_isRefused_b165 at h
    refine lv_aload_n hx hb dL_isRefused_165 rfl (lv_at hl 0 rfl) ?_
    refine lv_iconst (v := 0) hx hb dL_isRefused_166 (by decide) ?_
    refine lv_iload hx hb dL_isRefused_167 (lv_at hl 3 rfl) ?_
    obtain ⟨D2, t3, e1, h⟩ := caM_el h
    refine g_SX (As := [.ref x0, .int 0, .int x5]) (rest := []) (mc := 1) (ms := 6) hC hv hP hS (m_L_of l hfl G F S z9 D D2 x0 0 x5 t3 e1) (vx_cwSW 3 hts (gSX wa_237 wa_238 wa_233 wa_147) rfl rfl rfl (by decide +kernel) ⟨Nat.le_of_ble_eq_true rfl, Nat.le_of_ble_eq_true rfl⟩) rfl hl.1 rfl (Nat.le_of_ble_eq_true rfl) dL_isRefused_169 ⟨Nat.le_of_ble_eq_true rfl, Nat.le_of_ble_eq_true rfl⟩ (fun H locs hP hS => ?_)
    refine lv_sipush (v := (-601)) hx hb dL_isRefused_172 (by decide) ?_
    refine lv_icmp_ne (tgt := 253) hx hb dL_isRefused_175 (by decide) (fun u4 => ?_) (fun u4 => ?_)
    · have h := ite_f u4 h
      refine lv_iconst (v := 0) hx hb dL_isRefused_253 (by decide) ?_
      refine W.widen (k := 12) (n := 72) (Nat.le_of_ble_eq_true rfl) (Nat.le_of_ble_eq_true rfl) ?_
      exact b254 _ _ _ D2 x0 x1 x5 x6 0 hP hS (lv_sub hl [0, 1, 3, 4] rfl) h
    · have h := ite_t u4 h
      refine lv_aload_n hx hb dL_isRefused_178 rfl (lv_at hl 0 rfl) ?_
      refine lv_iconst (v := 0) hx hb dL_isRefused_179 (by decide) ?_
      refine lv_iload hx hb dL_isRefused_180 (lv_at hl 2 rfl) ?_
      refine lv_iconst (v := 5) hx hb dL_isRefused_182 (by decide) ?_
      obtain ⟨D6, t7, e5, h⟩ := caM_el h
      refine g_SX (As := [.ref x0, .int 0, .int x4, .int 5]) (rest := []) (mc := 1) (ms := 6) hC hv hP hS (m_L_at l hfl G F S z9 D2 D6 x0 0 x4 5 t7 e5) (vx_cwSW 4 hts (gSX wa_256 wa_257 wa_233 wa_188) rfl rfl rfl (by decide +kernel) ⟨Nat.le_of_ble_eq_true rfl, Nat.le_of_ble_eq_true rfl⟩) rfl hl.1 rfl (Nat.le_of_ble_eq_true rfl) dL_isRefused_183 ⟨Nat.le_of_ble_eq_true rfl, Nat.le_of_ble_eq_true rfl⟩ (fun H locs hP hS => ?_)
      refine lv_sipush (v := (-602)) hx hb dL_isRefused_186 (by decide) ?_
      refine lv_icmp_ne (tgt := 253) hx hb dL_isRefused_189 (by decide) (fun u8 => ?_) (fun u8 => ?_)
      · have h := ite_f u8 h
        refine lv_iconst (v := 0) hx hb dL_isRefused_253 (by decide) ?_
        refine W.widen (k := 12) (n := 72) (Nat.le_of_ble_eq_true rfl) (Nat.le_of_ble_eq_true rfl) ?_
        exact b254 _ _ _ D6 x0 x1 x5 x6 0 hP hS (lv_sub hl [0, 1, 3, 4] rfl) h
      · have h := ite_t u8 h
        refine lv_aload_n hx hb dL_isRefused_192 rfl (lv_at hl 0 rfl) ?_
        refine lv_iconst (v := 0) hx hb dL_isRefused_193 (by decide) ?_
        refine lv_iconst (v := 5) hx hb dL_isRefused_194 (by decide) ?_
        refine lv_iload hx hb dL_isRefused_195 (lv_at hl 2 rfl) ?_
        obtain ⟨D10, t11, e9, h⟩ := caM_el h
        refine g_SX (As := [.ref x0, .int 0, .int 5, .int x4]) (rest := []) (mc := 1) (ms := 6) hC hv hP hS (m_L_at l hfl G F S z9 D6 D10 x0 0 5 x4 t11 e9) (vx_cwSW 4 hts (gSX wa_256 wa_257 wa_233 wa_188) rfl rfl rfl (by decide +kernel) ⟨Nat.le_of_ble_eq_true rfl, Nat.le_of_ble_eq_true rfl⟩) rfl hl.1 rfl (Nat.le_of_ble_eq_true rfl) dL_isRefused_197 ⟨Nat.le_of_ble_eq_true rfl, Nat.le_of_ble_eq_true rfl⟩ (fun H locs hP hS => ?_)
        refine lv_sipush (v := (-602)) hx hb dL_isRefused_200 (by decide) ?_
        refine lv_icmp_ne (tgt := 253) hx hb dL_isRefused_203 (by decide) (fun u12 => ?_) (fun u12 => ?_)
        · have h := ite_f u12 h
          refine lv_iconst (v := 0) hx hb dL_isRefused_253 (by decide) ?_
          refine W.widen (k := 12) (n := 72) (Nat.le_of_ble_eq_true rfl) (Nat.le_of_ble_eq_true rfl) ?_
          exact b254 _ _ _ D10 x0 x1 x5 x6 0 hP hS (lv_sub hl [0, 1, 3, 4] rfl) h
        · have h := ite_t u12 h
          refine lv_aload_n hx hb dL_isRefused_206 rfl (lv_at hl 0 rfl) ?_
          refine lv_iconst (v := 1) hx hb dL_isRefused_207 (by decide) ?_
          refine lv_iload hx hb dL_isRefused_208 (lv_at hl 2 rfl) ?_
          refine lv_iconst (v := 0) hx hb dL_isRefused_210 (by decide) ?_
          obtain ⟨D14, t15, e13, h⟩ := caM_el h
          refine g_SX (As := [.ref x0, .int 1, .int x4, .int 0]) (rest := []) (mc := 1) (ms := 6) hC hv hP hS (m_L_at l hfl G F S z9 D10 D14 x0 1 x4 0 t15 e13) (vx_cwSW 4 hts (gSX wa_256 wa_257 wa_233 wa_188) rfl rfl rfl (by decide +kernel) ⟨Nat.le_of_ble_eq_true rfl, Nat.le_of_ble_eq_true rfl⟩) rfl hl.1 rfl (Nat.le_of_ble_eq_true rfl) dL_isRefused_211 ⟨Nat.le_of_ble_eq_true rfl, Nat.le_of_ble_eq_true rfl⟩ (fun H locs hP hS => ?_)
          refine lv_sipush (v := (-602)) hx hb dL_isRefused_214 (by decide) ?_
          refine lv_icmp_ne (tgt := 253) hx hb dL_isRefused_217 (by decide) (fun u16 => ?_) (fun u16 => ?_)
          · have h := ite_f u16 h
            refine lv_iconst (v := 0) hx hb dL_isRefused_253 (by decide) ?_
            refine W.widen (k := 12) (n := 72) (Nat.le_of_ble_eq_true rfl) (Nat.le_of_ble_eq_true rfl) ?_
            exact b254 _ _ _ D14 x0 x1 x5 x6 0 hP hS (lv_sub hl [0, 1, 3, 4] rfl) h
          · have h := ite_t u16 h
            refine lv_aload_n hx hb dL_isRefused_220 rfl (lv_at hl 0 rfl) ?_
            refine lv_iconst (v := 2) hx hb dL_isRefused_221 (by decide) ?_
            refine lv_iload hx hb dL_isRefused_222 (lv_at hl 2 rfl) ?_
            refine lv_iconst (v := (-1)) hx hb dL_isRefused_224 (by decide) ?_
            obtain ⟨D18, t19, e17, h⟩ := caM_el h
            refine g_SX (As := [.ref x0, .int 2, .int x4, .int ((-1))]) (rest := []) (mc := 1) (ms := 6) hC hv hP hS (m_L_at l hfl G F S z9 D14 D18 x0 2 x4 ((-1)) t19 e17) (vx_cwSW 4 hts (gSX wa_256 wa_257 wa_233 wa_188) rfl rfl rfl (by decide +kernel) ⟨Nat.le_of_ble_eq_true rfl, Nat.le_of_ble_eq_true rfl⟩) rfl hl.1 rfl (Nat.le_of_ble_eq_true rfl) dL_isRefused_225 ⟨Nat.le_of_ble_eq_true rfl, Nat.le_of_ble_eq_true rfl⟩ (fun H locs hP hS => ?_)
            refine lv_sipush (v := (-602)) hx hb dL_isRefused_228 (by decide) ?_
            refine lv_icmp_ne (tgt := 253) hx hb dL_isRefused_231 (by decide) (fun u20 => ?_) (fun u20 => ?_)
            · have h := ite_f u20 h
              refine lv_iconst (v := 0) hx hb dL_isRefused_253 (by decide) ?_
              refine W.widen (k := 12) (n := 72) (Nat.le_of_ble_eq_true rfl) (Nat.le_of_ble_eq_true rfl) ?_
              exact b254 _ _ _ D18 x0 x1 x5 x6 0 hP hS (lv_sub hl [0, 1, 3, 4] rfl) h
            · have h := ite_t u20 h
              refine lv_aload_n hx hb dL_isRefused_234 rfl (lv_at hl 0 rfl) ?_
              refine lv_iconst (v := 3) hx hb dL_isRefused_235 (by decide) ?_
              refine lv_iload hx hb dL_isRefused_236 (lv_at hl 3 rfl) ?_
              refine lv_iload hx hb dL_isRefused_238 (lv_at hl 3 rfl) ?_
              obtain ⟨D22, t23, e21, h⟩ := caM_el h
              refine g_SX (As := [.ref x0, .int 3, .int x5, .int x5]) (rest := []) (mc := 1) (ms := 6) hC hv hP hS (m_L_at l hfl G F S z9 D18 D22 x0 3 x5 x5 t23 e21) (vx_cwSW 4 hts (gSX wa_256 wa_257 wa_233 wa_188) rfl rfl rfl (by decide +kernel) ⟨Nat.le_of_ble_eq_true rfl, Nat.le_of_ble_eq_true rfl⟩) rfl hl.1 rfl (Nat.le_of_ble_eq_true rfl) dL_isRefused_240 ⟨Nat.le_of_ble_eq_true rfl, Nat.le_of_ble_eq_true rfl⟩ (fun H locs hP hS => ?_)
              refine lv_sipush (v := (-601)) hx hb dL_isRefused_243 (by decide) ?_
              refine lv_icmp_ne (tgt := 253) hx hb dL_isRefused_246 (by decide) (fun u24 => ?_) (fun u24 => ?_)
              · have h := ite_f u24 h
                refine lv_iconst (v := 0) hx hb dL_isRefused_253 (by decide) ?_
                refine W.widen (k := 12) (n := 72) (Nat.le_of_ble_eq_true rfl) (Nat.le_of_ble_eq_true rfl) ?_
                exact b254 _ _ _ D22 x0 x1 x5 x6 0 hP hS (lv_sub hl [0, 1, 3, 4] rfl) h
              · have h := ite_t u24 h
                refine lv_iconst (v := 1) hx hb dL_isRefused_249 (by decide) ?_
                refine lv_goto (tgt := 254) hx hb dL_isRefused_250 (by decide) ?_
                refine W.widen (k := 12) (n := 72) (Nat.le_of_ble_eq_true rfl) (Nat.le_of_ble_eq_true rfl) ?_
                exact b254 _ _ _ D22 x0 x1 x5 x6 1 hP hS (lv_sub hl [0, 1, 3, 4] rfl) h
  have b55 : ∀ (H : Heap) (locs : List Loc) (ls : Array Slot) (D : CD) (x0 : Nat) (x1 : Nat) (x2 : Int32) (x4 : Int32) (s0 : Int32), va_P G.1 vwCl (cW G S D) H → va_S (cA G S sz) s.heap H locs → lv_has ls 9 [(0, .ref x0), (1, .ref x1), (2, .int x2), (4, .int x4)] → f_L_isRefused_b55 F S D x0 x1 x2 x4 s0 = some (D2, r) → W p l e (headSpec wL_isRefused ({ frames := 11, cells := 14, slots := 84, locals := 430 })).room s m ([.ref a1, .ref a2, .int a3] : List Value).toArray below meth c H locs 0 0 (lQI below G S D2 sz ([.ref a1, .ref a2, .int a3] : List Value).toArray s r 14 84) (F0 m 55 ls [.int s0]) := by
    intro H locs ls D x0 x1 x2 x4 s0 hP hS hl h
    unfold f_L_isRefused_b55 at h
    refine lv_istore (lv' := [(5, .int s0), (0, .ref x0), (1, .ref x1), (2, .int x2), (4, .int x4)]) hx hb dL_isRefused_55 hl (by decide) rfl (fun ls hl => ?_)
    refine lv_aload_n hx hb dL_isRefused_57 rfl (lv_at hl 1 rfl) ?_
    obtain ⟨t2, e1, h⟩ := cal_el h
    refine g_SL (As := [.ref x0]) (rest := []) hC hP hS (m_L_all l G F S D x0 t2 e1) (va_cwS 1 hts (gSA wa_263 wa_264 wa_233 wa_203 (fun w h => h)) rfl rfl rfl (by decide +kernel) ⟨Nat.le_of_ble_eq_true rfl, Nat.le_of_ble_eq_true rfl⟩) rfl hl.1 rfl (Nat.le_of_ble_eq_true rfl) dL_isRefused_58 ⟨Nat.le_of_ble_eq_true rfl, Nat.le_of_ble_eq_true rfl⟩ (fun H locs hP hS => ?_)
    refine lv_lstore (lv' := [(6, .long t2), (5, .int s0), (0, .ref x0), (1, .ref x1), (2, .int x2), (4, .int x4)]) hx hb dL_isRefused_61 hl (by decide) rfl (fun ls hl => ?_)
    refine lv_aload_n hx hb dL_isRefused_63 rfl (lv_at hl 2 rfl) ?_
    refine lv_iload hx hb dL_isRefused_64 (lv_at hl 5 rfl) ?_
    refine lv_iconst (v := 1) hx hb dL_isRefused_66 (by decide) ?_
    refine lv_iconst (v := 2) hx hb dL_isRefused_67 (by decide) ?_
    refine lv_iconst (v := 3) hx hb dL_isRefused_68 (by decide) ?_
    obtain ⟨D4, t5, e3, h⟩ := caM_el h
    refine g_SX (As := [.ref x0, .int x4, .int 1, .int 2, .int 3]) (rest := []) (mc := 1) (ms := 6) hC hv hP hS (m_L_add l hfl G F S z9 D D4 x0 x4 1 2 3 t5 e3) (vx_cwSW 5 hts (gSX wa_265 wa_266 wa_233 wa_141) rfl rfl rfl (by decide +kernel) ⟨Nat.le_of_ble_eq_true rfl, Nat.le_of_ble_eq_true rfl⟩) rfl hl.1 rfl (Nat.le_of_ble_eq_true rfl) dL_isRefused_69 ⟨Nat.le_of_ble_eq_true rfl, Nat.le_of_ble_eq_true rfl⟩ (fun H locs hP hS => ?_)
    refine lv_sipush (v := (-602)) hx hb dL_isRefused_72 (by decide) ?_
    refine lv_icmp_ne (tgt := 253) hx hb dL_isRefused_75 (by decide) (fun u6 => ?_) (fun u6 => ?_)
    · have h := ite_f u6 h
      refine lv_iconst (v := 0) hx hb dL_isRefused_253 (by decide) ?_
      refine W.widen (k := 12) (n := 72) (Nat.le_of_ble_eq_true rfl) (Nat.le_of_ble_eq_true rfl) ?_
      exact b254 _ _ _ D4 x0 x1 s0 t2 0 hP hS (lv_sub hl [2, 3, 1, 0] rfl) h
    · have h := ite_t u6 h
      refine lv_aload_n hx hb dL_isRefused_78 rfl (lv_at hl 2 rfl) ?_
      refine lv_iconst (v := 1) hx hb dL_isRefused_79 (by decide) ?_
      refine lv_iload hx hb dL_isRefused_80 (lv_at hl 5 rfl) ?_
      refine lv_iconst (v := 2) hx hb dL_isRefused_82 (by decide) ?_
      refine lv_iconst (v := 3) hx hb dL_isRefused_83 (by decide) ?_
      obtain ⟨D8, t9, e7, h⟩ := caM_el h
      refine g_SX (As := [.ref x0, .int 1, .int x4, .int 2, .int 3]) (rest := []) (mc := 1) (ms := 6) hC hv hP hS (m_L_add l hfl G F S z9 D4 D8 x0 1 x4 2 3 t9 e7) (vx_cwSW 5 hts (gSX wa_265 wa_266 wa_233 wa_141) rfl rfl rfl (by decide +kernel) ⟨Nat.le_of_ble_eq_true rfl, Nat.le_of_ble_eq_true rfl⟩) rfl hl.1 rfl (Nat.le_of_ble_eq_true rfl) dL_isRefused_84 ⟨Nat.le_of_ble_eq_true rfl, Nat.le_of_ble_eq_true rfl⟩ (fun H locs hP hS => ?_)
      refine lv_sipush (v := (-602)) hx hb dL_isRefused_87 (by decide) ?_
      refine lv_icmp_ne (tgt := 253) hx hb dL_isRefused_90 (by decide) (fun u10 => ?_) (fun u10 => ?_)
      · have h := ite_f u10 h
        refine lv_iconst (v := 0) hx hb dL_isRefused_253 (by decide) ?_
        refine W.widen (k := 12) (n := 72) (Nat.le_of_ble_eq_true rfl) (Nat.le_of_ble_eq_true rfl) ?_
        exact b254 _ _ _ D8 x0 x1 s0 t2 0 hP hS (lv_sub hl [2, 3, 1, 0] rfl) h
      · have h := ite_t u10 h
        refine lv_aload_n hx hb dL_isRefused_93 rfl (lv_at hl 2 rfl) ?_
        refine lv_iconst (v := 1) hx hb dL_isRefused_94 (by decide) ?_
        refine lv_iconst (v := 2) hx hb dL_isRefused_95 (by decide) ?_
        refine lv_iload hx hb dL_isRefused_96 (lv_at hl 5 rfl) ?_
        refine lv_iconst (v := 3) hx hb dL_isRefused_98 (by decide) ?_
        obtain ⟨D12, t13, e11, h⟩ := caM_el h
        refine g_SX (As := [.ref x0, .int 1, .int 2, .int x4, .int 3]) (rest := []) (mc := 1) (ms := 6) hC hv hP hS (m_L_add l hfl G F S z9 D8 D12 x0 1 2 x4 3 t13 e11) (vx_cwSW 5 hts (gSX wa_265 wa_266 wa_233 wa_141) rfl rfl rfl (by decide +kernel) ⟨Nat.le_of_ble_eq_true rfl, Nat.le_of_ble_eq_true rfl⟩) rfl hl.1 rfl (Nat.le_of_ble_eq_true rfl) dL_isRefused_99 ⟨Nat.le_of_ble_eq_true rfl, Nat.le_of_ble_eq_true rfl⟩ (fun H locs hP hS => ?_)
        refine lv_sipush (v := (-602)) hx hb dL_isRefused_102 (by decide) ?_
        refine lv_icmp_ne (tgt := 253) hx hb dL_isRefused_105 (by decide) (fun u14 => ?_) (fun u14 => ?_)
        · have h := ite_f u14 h
          refine lv_iconst (v := 0) hx hb dL_isRefused_253 (by decide) ?_
          refine W.widen (k := 12) (n := 72) (Nat.le_of_ble_eq_true rfl) (Nat.le_of_ble_eq_true rfl) ?_
          exact b254 _ _ _ D12 x0 x1 s0 t2 0 hP hS (lv_sub hl [2, 3, 1, 0] rfl) h
        · have h := ite_t u14 h
          refine lv_aload_n hx hb dL_isRefused_108 rfl (lv_at hl 2 rfl) ?_
          refine lv_iconst (v := 1) hx hb dL_isRefused_109 (by decide) ?_
          refine lv_iconst (v := 2) hx hb dL_isRefused_110 (by decide) ?_
          refine lv_iconst (v := 3) hx hb dL_isRefused_111 (by decide) ?_
          refine lv_iload hx hb dL_isRefused_112 (lv_at hl 5 rfl) ?_
          obtain ⟨D16, t17, e15, h⟩ := caM_el h
          refine g_SX (As := [.ref x0, .int 1, .int 2, .int 3, .int x4]) (rest := []) (mc := 1) (ms := 6) hC hv hP hS (m_L_add l hfl G F S z9 D12 D16 x0 1 2 3 x4 t17 e15) (vx_cwSW 5 hts (gSX wa_265 wa_266 wa_233 wa_141) rfl rfl rfl (by decide +kernel) ⟨Nat.le_of_ble_eq_true rfl, Nat.le_of_ble_eq_true rfl⟩) rfl hl.1 rfl (Nat.le_of_ble_eq_true rfl) dL_isRefused_114 ⟨Nat.le_of_ble_eq_true rfl, Nat.le_of_ble_eq_true rfl⟩ (fun H locs hP hS => ?_)
          refine lv_sipush (v := (-602)) hx hb dL_isRefused_117 (by decide) ?_
          refine lv_icmp_ne (tgt := 253) hx hb dL_isRefused_120 (by decide) (fun u18 => ?_) (fun u18 => ?_)
          · have h := ite_f u18 h
            refine lv_iconst (v := 0) hx hb dL_isRefused_253 (by decide) ?_
            refine W.widen (k := 12) (n := 72) (Nat.le_of_ble_eq_true rfl) (Nat.le_of_ble_eq_true rfl) ?_
            exact b254 _ _ _ D16 x0 x1 s0 t2 0 hP hS (lv_sub hl [2, 3, 1, 0] rfl) h
          · have h := ite_t u18 h
            refine lv_aload_n hx hb dL_isRefused_123 rfl (lv_at hl 2 rfl) ?_
            refine lv_iload_n hx hb dL_isRefused_124 rfl (lv_at hl 4 rfl) ?_
            refine lv_bipush (v := 101) hx hb dL_isRefused_125 (by decide) ?_
            refine lv_irem hx hb dL_isRefused_127 (by decide) ?_
            refine lv_iconst (v := 5) hx hb dL_isRefused_128 (by decide) ?_
            refine lv_iload_n hx hb dL_isRefused_129 rfl (lv_at hl 4 rfl) ?_
            refine lv_bipush (v := 101) hx hb dL_isRefused_130 (by decide) ?_
            refine lv_irem hx hb dL_isRefused_132 (by decide) ?_
            refine lv_iconst (v := 5) hx hb dL_isRefused_133 (by decide) ?_
            obtain ⟨D20, t21, e19, h⟩ := caM_el h
            refine g_SX (As := [.ref x0, .int (x2 - x2 / 101 * 101), .int 5, .int (x2 - x2 / 101 * 101), .int 5]) (rest := []) (mc := 1) (ms := 6) hC hv hP hS (m_L_add l hfl G F S z9 D16 D20 x0 (x2 - x2 / 101 * 101) 5 (x2 - x2 / 101 * 101) 5 t21 e19) (vx_cwSW 5 hts (gSX wa_265 wa_266 wa_233 wa_141) rfl rfl rfl (by decide +kernel) ⟨Nat.le_of_ble_eq_true rfl, Nat.le_of_ble_eq_true rfl⟩) rfl hl.1 rfl (Nat.le_of_ble_eq_true rfl) dL_isRefused_134 ⟨Nat.le_of_ble_eq_true rfl, Nat.le_of_ble_eq_true rfl⟩ (fun H locs hP hS => ?_)
            refine lv_sipush (v := (-602)) hx hb dL_isRefused_137 (by decide) ?_
            refine lv_icmp_ne (tgt := 253) hx hb dL_isRefused_140 (by decide) (fun u22 => ?_) (fun u22 => ?_)
            · have h := ite_f u22 h
              refine lv_iconst (v := 0) hx hb dL_isRefused_253 (by decide) ?_
              refine W.widen (k := 12) (n := 72) (Nat.le_of_ble_eq_true rfl) (Nat.le_of_ble_eq_true rfl) ?_
              exact b254 _ _ _ D20 x0 x1 s0 t2 0 hP hS (lv_sub hl [2, 3, 1, 0] rfl) h
            · have h := ite_t u22 h
              refine lv_aload_n hx hb dL_isRefused_143 rfl (lv_at hl 3 rfl) ?_
              refine lv_iconst (v := 0) hx hb dL_isRefused_144 (by decide) ?_
              obtain ⟨z23, h⟩ := ckK_el h
              obtain ⟨y25, t24, e26, h⟩ := rdI_el h
              refine g_ild hC hP z23.1 z23.2 y25 e26 dL_isRefused_145 ?_
              refine lv_bipush (v := 12) hx hb dL_isRefused_146 (by decide) ?_
              refine lv_icmp_lt (tgt := 165) hx hb dL_isRefused_148 (by decide) (fun u27 => ?_) (fun u27 => ?_)
              · have h := ite_t u27 h
                refine W.widen (k := 6) (n := 36) (Nat.le_of_ble_eq_true rfl) (Nat.le_of_ble_eq_true rfl) ?_
                exact b165 _ _ _ D20 x0 x1 x4 s0 t2 hP hS (lv_sub hl [2, 3, 5, 1, 0] rfl) h
              · have h := ite_f u27 h
                refine lv_aload_n hx hb dL_isRefused_151 rfl (lv_at hl 2 rfl) ?_
                refine lv_iconst (v := 0) hx hb dL_isRefused_152 (by decide) ?_
                refine lv_iconst (v := 0) hx hb dL_isRefused_153 (by decide) ?_
                refine lv_iconst (v := 1) hx hb dL_isRefused_154 (by decide) ?_
                refine lv_iconst (v := 1) hx hb dL_isRefused_155 (by decide) ?_
                obtain ⟨D29, t30, e28, h⟩ := caM_el h
                refine g_SX (As := [.ref x0, .int 0, .int 0, .int 1, .int 1]) (rest := []) (mc := 1) (ms := 6) hC hv hP hS (m_L_add l hfl G F S z9 D20 D29 x0 0 0 1 1 t30 e28) (vx_cwSW 5 hts (gSX wa_265 wa_266 wa_233 wa_141) rfl rfl rfl (by decide +kernel) ⟨Nat.le_of_ble_eq_true rfl, Nat.le_of_ble_eq_true rfl⟩) rfl hl.1 rfl (Nat.le_of_ble_eq_true rfl) dL_isRefused_156 ⟨Nat.le_of_ble_eq_true rfl, Nat.le_of_ble_eq_true rfl⟩ (fun H locs hP hS => ?_)
                refine lv_sipush (v := (-603)) hx hb dL_isRefused_159 (by decide) ?_
                refine lv_icmp_ne (tgt := 253) hx hb dL_isRefused_162 (by decide) (fun u31 => ?_) (fun u31 => ?_)
                · have h := ite_f u31 h
                  refine lv_iconst (v := 0) hx hb dL_isRefused_253 (by decide) ?_
                  refine W.widen (k := 12) (n := 72) (Nat.le_of_ble_eq_true rfl) (Nat.le_of_ble_eq_true rfl) ?_
                  exact b254 _ _ _ D29 x0 x1 s0 t2 0 hP hS (lv_sub hl [2, 3, 1, 0] rfl) h
                · have h := ite_t u31 h
                  refine W.widen (k := 6) (n := 36) (Nat.le_of_ble_eq_true rfl) (Nat.le_of_ble_eq_true rfl) ?_
                  exact b165 _ _ _ D29 x0 x1 x4 s0 t2 hP hS (lv_sub hl [2, 3, 5, 1, 0] rfl) h
  have b32 : ∀ (H : Heap) (locs : List Loc) (ls : Array Slot) (D : CD) (x0 : Nat) (x1 : Nat) (x2 : Int32) (x3 : Int32) (s0 : Int32), va_P G.1 vwCl (cW G S D) H → va_S (cA G S sz) s.heap H locs → lv_has ls 9 [(0, .ref x0), (1, .ref x1), (2, .int x2), (3, .int x3)] → f_L_isRefused_b32 F S D x0 x1 x2 x3 s0 = some (D2, r) → W p l e (headSpec wL_isRefused ({ frames := 11, cells := 14, slots := 84, locals := 430 })).room s m ([.ref a1, .ref a2, .int a3] : List Value).toArray below meth c H locs 0 0 (lQI below G S D2 sz ([.ref a1, .ref a2, .int a3] : List Value).toArray s r 14 84) (F0 m 32 ls [.int s0]) := by
    intro H locs ls D x0 x1 x2 x3 s0 hP hS hl h
    unfold f_L_isRefused_b32 at h
    refine lv_istore (lv' := [(4, .int s0), (0, .ref x0), (1, .ref x1), (2, .int x2), (3, .int x3)]) hx hb dL_isRefused_32 hl (by decide) rfl (fun ls hl => ?_)
    refine lv_iload_n hx hb dL_isRefused_34 rfl (lv_at hl 4 rfl) ?_
    refine lv_if_eq (tgt := 47) hx hb dL_isRefused_35 (by decide) (fun u1 => ?_) (fun u1 => ?_)
    · have h := ite_t u1 h
      refine lv_aload_n hx hb dL_isRefused_47 rfl (lv_at hl 2 rfl) ?_
      refine lv_iconst (v := 0) hx hb dL_isRefused_48 (by decide) ?_
      obtain ⟨z2, h⟩ := ckK_el h
      obtain ⟨y4, t3, e5, h⟩ := rdI_el h
      refine g_ild hC hP z2.1 z2.2 y4 e5 dL_isRefused_49 ?_
      refine lv_iload_n hx hb dL_isRefused_50 rfl (lv_at hl 3 rfl) ?_
      refine lv_bipush (v := 50) hx hb dL_isRefused_51 (by decide) ?_
      refine lv_irem hx hb dL_isRefused_53 (by decide) ?_
      refine lv_iadd hx hb dL_isRefused_54 ?_
      refine W.widen (k := 0) (n := 0) (Nat.le_of_ble_eq_true rfl) (Nat.le_of_ble_eq_true rfl) ?_
      exact b55 _ _ _ D x0 x1 x2 s0 (t3 + (x2 - x2 / 50 * 50)) hP hS (lv_sub hl [1, 2, 3, 0] rfl) h
    · have h := ite_f u1 h
      refine lv_iconst (v := (-1)) hx hb dL_isRefused_38 (by decide) ?_
      refine lv_iload_n hx hb dL_isRefused_39 rfl (lv_at hl 3 rfl) ?_
      refine lv_bipush (v := 50) hx hb dL_isRefused_40 (by decide) ?_
      refine lv_irem hx hb dL_isRefused_42 (by decide) ?_
      refine lv_isub hx hb dL_isRefused_43 ?_
      refine lv_goto (tgt := 55) hx hb dL_isRefused_44 (by decide) ?_
      refine W.widen (k := 0) (n := 0) (Nat.le_of_ble_eq_true rfl) (Nat.le_of_ble_eq_true rfl) ?_
      exact b55 _ _ _ D x0 x1 x2 s0 (((-1)) - (x2 - x2 / 50 * 50)) hP hS (lv_sub hl [1, 2, 3, 0] rfl) h
  have b11 : ∀ (H : Heap) (locs : List Loc) (ls : Array Slot) (D : CD) (x0 : Nat) (x1 : Nat) (x2 : Int32) (s0 : Int32), va_P G.1 vwCl (cW G S D) H → va_S (cA G S sz) s.heap H locs → lv_has ls 9 [(0, .ref x0), (1, .ref x1), (2, .int x2)] → f_L_isRefused_b11 F S D x0 x1 x2 s0 = some (D2, r) → W p l e (headSpec wL_isRefused ({ frames := 11, cells := 14, slots := 84, locals := 430 })).room s m ([.ref a1, .ref a2, .int a3] : List Value).toArray below meth c H locs 0 0 (lQI below G S D2 sz ([.ref a1, .ref a2, .int a3] : List Value).toArray s r 14 84) (F0 m 11 ls [.int s0]) := by
    intro H locs ls D x0 x1 x2 s0 hP hS hl h
    unfold f_L_isRefused_b11 at h
    refine lv_istore_n (lv' := [(3, .int s0), (0, .ref x0), (1, .ref x1), (2, .int x2)]) hx hb dL_isRefused_11 rfl hl (by decide) rfl (fun ls hl => ?_)
    refine lv_iload_n hx hb dL_isRefused_12 rfl (lv_at hl 0 rfl) ?_
    refine lv_if_eq (tgt := 25) hx hb dL_isRefused_13 (by decide) (fun u1 => ?_) (fun u1 => ?_)
    · have h := ite_t u1 h
      refine lv_bipush (v := 101) hx hb dL_isRefused_25 (by decide) ?_
      refine lv_iload_n hx hb dL_isRefused_27 rfl (lv_at hl 3 rfl) ?_
      refine lv_bipush (v := 50) hx hb dL_isRefused_28 (by decide) ?_
      refine lv_irem hx hb dL_isRefused_30 (by decide) ?_
      refine lv_iadd hx hb dL_isRefused_31 ?_
      refine W.widen (k := 0) (n := 0) (Nat.le_of_ble_eq_true rfl) (Nat.le_of_ble_eq_true rfl) ?_
      exact b32 _ _ _ D x0 x1 x2 s0 (101 + (x2 - x2 / 50 * 50)) hP hS (lv_sub hl [1, 2, 3, 0] rfl) h
    · have h := ite_f u1 h
      refine lv_iconst (v := (-1)) hx hb dL_isRefused_16 (by decide) ?_
      refine lv_iload_n hx hb dL_isRefused_17 rfl (lv_at hl 3 rfl) ?_
      refine lv_bipush (v := 50) hx hb dL_isRefused_18 (by decide) ?_
      refine lv_irem hx hb dL_isRefused_20 (by decide) ?_
      refine lv_isub hx hb dL_isRefused_21 ?_
      refine lv_goto (tgt := 32) hx hb dL_isRefused_22 (by decide) ?_
      refine W.widen (k := 0) (n := 0) (Nat.le_of_ble_eq_true rfl) (Nat.le_of_ble_eq_true rfl) ?_
      exact b32 _ _ _ D x0 x1 x2 s0 (((-1)) - (x2 - x2 / 50 * 50)) hP hS (lv_sub hl [1, 2, 3, 0] rfl) h
  refine m_entry (Nat.le_of_ble_eq_true rfl) (fun ls hl => ?_)
  have hl : lv_has ls 9 [(0, .ref a1), (1, .ref a2), (2, .int a3)] := hl
  unfold f_L_isRefused at h
  refine lv_iload_n hx hb dL_isRefused_0 rfl (lv_at hl 2 rfl) ?_
  refine lv_iconst (v := 2) hx hb dL_isRefused_1 (by decide) ?_
  refine lv_irem hx hb dL_isRefused_2 (by decide) ?_
  refine lv_if_ne (tgt := 10) hx hb dL_isRefused_3 (by decide) (fun u1 => ?_) (fun u1 => ?_)
  · have h := ite_f u1 h
    refine lv_iconst (v := 0) hx hb dL_isRefused_10 (by decide) ?_
    refine W.widen (k := 0) (n := 0) (Nat.le_of_ble_eq_true rfl) (Nat.le_of_ble_eq_true rfl) ?_
    exact b11 _ _ _ D a1 a2 a3 0 hP hS (lv_sub hl [0, 1, 2] rfl) h
  · have h := ite_t u1 h
    refine lv_iconst (v := 1) hx hb dL_isRefused_6 (by decide) ?_
    refine lv_goto (tgt := 11) hx hb dL_isRefused_7 (by decide) ?_
    refine W.widen (k := 0) (n := 0) (Nat.le_of_ble_eq_true rfl) (Nat.le_of_ble_eq_true rfl) ?_
    exact b11 _ _ _ D a1 a2 a3 1 hP hS (lv_sub hl [0, 1, 2] rfl) h
