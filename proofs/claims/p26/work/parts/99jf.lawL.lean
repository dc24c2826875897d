theorem dL_isLine_0 : decode cL_isLine 0 = .ok (.iconst 0, 1) := by decide +kernel
theorem dL_isLine_1 : decode cL_isLine 1 = .ok (.istore 4, 2) := by decide +kernel
theorem dL_isLine_3 : decode cL_isLine 3 = .ok (.iconst 0, 1) := by decide +kernel
theorem dL_isLine_4 : decode cL_isLine 4 = .ok (.istore 5, 2) := by decide +kernel
theorem dL_isLine_6 : decode cL_isLine 6 = .ok (.iload 5, 2) := by decide +kernel
theorem dL_isLine_8 : decode cL_isLine 8 = .ok (.aload_n 2, 1) := by decide +kernel
theorem dL_isLine_9 : decode cL_isLine 9 = .ok (.iconst 0, 1) := by decide +kernel
theorem dL_isLine_10 : decode cL_isLine 10 = .ok (.iaload, 1) := by decide +kernel
theorem dL_isLine_11 : decode cL_isLine 11 = .ok (.if_icmp .ge 52, 3) := by decide +kernel
theorem dL_isLine_14 : decode cL_isLine 14 = .ok (.iload 4, 2) := by decide +kernel
theorem dL_isLine_16 : decode cL_isLine 16 = .ok (.aload_n 1, 1) := by decide +kernel
theorem dL_isLine_17 : decode cL_isLine 17 = .ok (.iload 5, 2) := by decide +kernel
theorem dL_isLine_19 : decode cL_isLine 19 = .ok (.invokestatic 111, 3) := by decide +kernel
theorem dL_isLine_22 : decode cL_isLine 22 = .ok (.lconst 0, 1) := by decide +kernel
theorem dL_isLine_23 : decode cL_isLine 23 = .ok (.lcmp, 1) := by decide +kernel
theorem dL_isLine_24 : decode cL_isLine 24 = .ok (.ifCond .le 29, 3) := by decide +kernel
theorem dL_isLine_27 : decode cL_isLine 27 = .ok (.aload_n 1, 1) := by decide +kernel
theorem dL_isLine_28 : decode cL_isLine 28 = .ok (.iconst 4, 1) := by decide +kernel
theorem dL_isLine_29 : decode cL_isLine 29 = .ok (.iload 5, 2) := by decide +kernel
theorem dL_isLine_31 : decode cL_isLine 31 = .ok (.imul, 1) := by decide +kernel
theorem dL_isLine_32 : decode cL_isLine 32 = .ok (.iaload, 1) := by decide +kernel
theorem dL_isLine_33 : decode cL_isLine 33 = .ok (.iload_n 3, 1) := by decide +kernel
theorem dL_isLine_34 : decode cL_isLine 34 = .ok (.if_icmp .gt 19, 3) := by decide +kernel
theorem dL_isLine_37 : decode cL_isLine 37 = .ok (.aload_n 1, 1) := by decide +kernel
theorem dL_isLine_38 : decode cL_isLine 38 = .ok (.iconst 4, 1) := by decide +kernel
theorem dL_isLine_39 : decode cL_isLine 39 = .ok (.iload 5, 2) := by decide +kernel
theorem dL_isLine_41 : decode cL_isLine 41 = .ok (.imul, 1) := by decide +kernel
theorem dL_isLine_42 : decode cL_isLine 42 = .ok (.iconst 2, 1) := by decide +kernel
theorem dL_isLine_43 : decode cL_isLine 43 = .ok (.iadd, 1) := by decide +kernel
theorem dL_isLine_44 : decode cL_isLine 44 = .ok (.iaload, 1) := by decide +kernel
theorem dL_isLine_45 : decode cL_isLine 45 = .ok (.iload_n 3, 1) := by decide +kernel
theorem dL_isLine_46 : decode cL_isLine 46 = .ok (.if_icmp .lt 7, 3) := by decide +kernel
theorem dL_isLine_49 : decode cL_isLine 49 = .ok (.iconst 1, 1) := by decide +kernel
theorem dL_isLine_50 : decode cL_isLine 50 = .ok (.goto 4, 3) := by decide +kernel
theorem dL_isLine_53 : decode cL_isLine 53 = .ok (.iconst 0, 1) := by decide +kernel
theorem dL_isLine_54 : decode cL_isLine 54 = .ok (.iadd, 1) := by decide +kernel
theorem dL_isLine_55 : decode cL_isLine 55 = .ok (.istore 4, 2) := by decide +kernel
theorem dL_isLine_57 : decode cL_isLine 57 = .ok (.iinc 5 1, 3) := by decide +kernel
theorem dL_isLine_60 : decode cL_isLine 60 = .ok (.goto (-54), 3) := by decide +kernel
theorem dL_isLine_63 : decode cL_isLine 63 = .ok (.aload_n 0, 1) := by decide +kernel
theorem dL_isLine_64 : decode cL_isLine 64 = .ok (.iload_n 3, 1) := by decide +kernel
theorem dL_isLine_65 : decode cL_isLine 65 = .ok (.invokevirtual 65, 3) := by decide +kernel
theorem dL_isLine_68 : decode cL_isLine 68 = .ok (.iload 4, 2) := by decide +kernel
theorem dL_isLine_70 : decode cL_isLine 70 = .ok (.if_icmp .ne 34, 3) := by decide +kernel
theorem dL_isLine_73 : decode cL_isLine 73 = .ok (.aload_n 0, 1) := by decide +kernel
theorem dL_isLine_74 : decode cL_isLine 74 = .ok (.iconst 2, 1) := by decide +kernel
theorem dL_isLine_75 : decode cL_isLine 75 = .ok (.iload_n 3, 1) := by decide +kernel
theorem dL_isLine_76 : decode cL_isLine 76 = .ok (.iload 4, 2) := by decide +kernel
theorem dL_isLine_78 : decode cL_isLine 78 = .ok (.invokestatic 143, 3) := by decide +kernel
theorem dL_isLine_81 : decode cL_isLine 81 = .ok (.sipush (-601), 3) := by decide +kernel
theorem dL_isLine_84 : decode cL_isLine 84 = .ok (.if_icmp .ne 20, 3) := by decide +kernel
theorem dL_isLine_87 : decode cL_isLine 87 = .ok (.aload_n 0, 1) := by decide +kernel
theorem dL_isLine_88 : decode cL_isLine 88 = .ok (.iconst 2, 1) := by decide +kernel
theorem dL_isLine_89 : decode cL_isLine 89 = .ok (.iload_n 3, 1) := by decide +kernel
theorem dL_isLine_90 : decode cL_isLine 90 = .ok (.iconst (-1), 1) := by decide +kernel
theorem dL_isLine_91 : decode cL_isLine 91 = .ok (.invokestatic 143, 3) := by decide +kernel
theorem dL_isLine_94 : decode cL_isLine 94 = .ok (.sipush (-601), 3) := by decide +kernel
theorem dL_isLine_97 : decode cL_isLine 97 = .ok (.if_icmp .ne 7, 3) := by decide +kernel
theorem dL_isLine_100 : decode cL_isLine 100 = .ok (.iconst 1, 1) := by decide +kernel
theorem dL_isLine_101 : decode cL_isLine 101 = .ok (.goto 4, 3) := by decide +kernel
theorem dL_isLine_104 : decode cL_isLine 104 = .ok (.iconst 0, 1) := by decide +kernel
theorem dL_isLine_105 : decode cL_isLine 105 = .ok (.istore 5, 2) := by decide +kernel
theorem dL_isLine_107 : decode cL_isLine 107 = .ok (.iconst 0, 1) := by decide +kernel
theorem dL_isLine_108 : decode cL_isLine 108 = .ok (.istore 6, 2) := by decide +kernel
theorem dL_isLine_110 : decode cL_isLine 110 = .ok (.iload 6, 2) := by decide +kernel
theorem dL_isLine_112 : decode cL_isLine 112 = .ok (.iload 4, 2) := by decide +kernel
theorem dL_isLine_114 : decode cL_isLine 114 = .ok (.if_icmp .ge 119, 3) := by decide +kernel
theorem dL_isLine_117 : decode cL_isLine 117 = .ok (.iload 5, 2) := by decide +kernel
theorem dL_isLine_119 : decode cL_isLine 119 = .ok (.ifCond .eq 114, 3) := by decide +kernel
theorem dL_isLine_122 : decode cL_isLine 122 = .ok (.aload_n 0, 1) := by decide +kernel
theorem dL_isLine_123 : decode cL_isLine 123 = .ok (.iload_n 3, 1) := by decide +kernel
theorem dL_isLine_124 : decode cL_isLine 124 = .ok (.iload 6, 2) := by decide +kernel
theorem dL_isLine_126 : decode cL_isLine 126 = .ok (.invokevirtual 68, 3) := by decide +kernel
theorem dL_isLine_129 : decode cL_isLine 129 = .ok (.istore 7, 2) := by decide +kernel
theorem dL_isLine_131 : decode cL_isLine 131 = .ok (.iload 6, 2) := by decide +kernel
theorem dL_isLine_133 : decode cL_isLine 133 = .ok (.ifCond .ne 7, 3) := by decide +kernel
theorem dL_isLine_136 : decode cL_isLine 136 = .ok (.iconst (-1), 1) := by decide +kernel
theorem dL_isLine_137 : decode cL_isLine 137 = .ok (.goto 12, 3) := by decide +kernel
theorem dL_isLine_140 : decode cL_isLine 140 = .ok (.aload_n 0, 1) := by decide +kernel
theorem dL_isLine_141 : decode cL_isLine 141 = .ok (.iload_n 3, 1) := by decide +kernel
theorem dL_isLine_142 : decode cL_isLine 142 = .ok (.iload 6, 2) := by decide +kernel
theorem dL_isLine_144 : decode cL_isLine 144 = .ok (.iconst 1, 1) := by decide +kernel
theorem dL_isLine_145 : decode cL_isLine 145 = .ok (.isub, 1) := by decide +kernel
theorem dL_isLine_146 : decode cL_isLine 146 = .ok (.invokevirtual 68, 3) := by decide +kernel
theorem dL_isLine_149 : decode cL_isLine 149 = .ok (.istore 8, 2) := by decide +kernel
theorem dL_isLine_151 : decode cL_isLine 151 = .ok (.aload_n 1, 1) := by decide +kernel
theorem dL_isLine_152 : decode cL_isLine 152 = .ok (.iload 7, 2) := by decide +kernel
theorem dL_isLine_154 : decode cL_isLine 154 = .ok (.invokestatic 111, 3) := by decide +kernel
theorem dL_isLine_157 : decode cL_isLine 157 = .ok (.lconst 0, 1) := by decide +kernel
theorem dL_isLine_158 : decode cL_isLine 158 = .ok (.lcmp, 1) := by decide +kernel
theorem dL_isLine_159 : decode cL_isLine 159 = .ok (.ifCond .le 65, 3) := by decide +kernel
theorem dL_isLine_162 : decode cL_isLine 162 = .ok (.aload_n 1, 1) := by decide +kernel
theorem dL_isLine_163 : decode cL_isLine 163 = .ok (.iconst 4, 1) := by decide +kernel
theorem dL_isLine_164 : decode cL_isLine 164 = .ok (.iload 7, 2) := by decide +kernel
theorem dL_isLine_166 : decode cL_isLine 166 = .ok (.imul, 1) := by decide +kernel
theorem dL_isLine_167 : decode cL_isLine 167 = .ok (.iaload, 1) := by decide +kernel
theorem dL_isLine_168 : decode cL_isLine 168 = .ok (.iload_n 3, 1) := by decide +kernel
theorem dL_isLine_169 : decode cL_isLine 169 = .ok (.if_icmp .gt 55, 3) := by decide +kernel
theorem dL_isLine_172 : decode cL_isLine 172 = .ok (.aload_n 1, 1) := by decide +kernel
theorem dL_isLine_173 : decode cL_isLine 173 = .ok (.iconst 4, 1) := by decide +kernel
theorem dL_isLine_174 : decode cL_isLine 174 = .ok (.iload 7, 2) := by decide +kernel
theorem dL_isLine_176 : decode cL_isLine 176 = .ok (.imul, 1) := by decide +kernel
theorem dL_isLine_177 : decode cL_isLine 177 = .ok (.iconst 2, 1) := by decide +kernel
theorem dL_isLine_178 : decode cL_isLine 178 = .ok (.iadd, 1) := by decide +kernel
theorem dL_isLine_179 : decode cL_isLine 179 = .ok (.iaload, 1) := by decide +kernel
theorem dL_isLine_180 : decode cL_isLine 180 = .ok (.iload_n 3, 1) := by decide +kernel
theorem dL_isLine_181 : decode cL_isLine 181 = .ok (.if_icmp .lt 43, 3) := by decide +kernel
theorem dL_isLine_184 : decode cL_isLine 184 = .ok (.iload 8, 2) := by decide +kernel
theorem dL_isLine_186 : decode cL_isLine 186 = .ok (.ifCond .lt 34, 3) := by decide +kernel
theorem dL_isLine_189 : decode cL_isLine 189 = .ok (.aload_n 1, 1) := by decide +kernel
theorem dL_isLine_190 : decode cL_isLine 190 = .ok (.iload 7, 2) := by decide +kernel
theorem dL_isLine_192 : decode cL_isLine 192 = .ok (.iload 8, 2) := by decide +kernel
theorem dL_isLine_194 : decode cL_isLine 194 = .ok (.iload_n 3, 1) := by decide +kernel
theorem dL_isLine_195 : decode cL_isLine 195 = .ok (.invokestatic 139, 3) := by decide +kernel
theorem dL_isLine_198 : decode cL_isLine 198 = .ok (.ifCond .ne 22, 3) := by decide +kernel
theorem dL_isLine_201 : decode cL_isLine 201 = .ok (.aload_n 1, 1) := by decide +kernel
theorem dL_isLine_202 : decode cL_isLine 202 = .ok (.iload 8, 2) := by decide +kernel
theorem dL_isLine_204 : decode cL_isLine 204 = .ok (.iload 7, 2) := by decide +kernel
theorem dL_isLine_206 : decode cL_isLine 206 = .ok (.iload_n 3, 1) := by decide +kernel
theorem dL_isLine_207 : decode cL_isLine 207 = .ok (.invokestatic 139, 3) := by decide +kernel
theorem dL_isLine_210 : decode cL_isLine 210 = .ok (.ifCond .ne 14, 3) := by decide +kernel
theorem dL_isLine_213 : decode cL_isLine 213 = .ok (.iload 8, 2) := by decide +kernel
theorem dL_isLine_215 : decode cL_isLine 215 = .ok (.iload 7, 2) := by decide +kernel
theorem dL_isLine_217 : decode cL_isLine 217 = .ok (.if_icmp .ge 7, 3) := by decide +kernel
theorem dL_isLine_220 : decode cL_isLine 220 = .ok (.iconst 1, 1) := by decide +kernel
theorem dL_isLine_221 : decode cL_isLine 221 = .ok (.goto 4, 3) := by decide +kernel
theorem dL_isLine_224 : decode cL_isLine 224 = .ok (.iconst 0, 1) := by decide +kernel
theorem dL_isLine_225 : decode cL_isLine 225 = .ok (.istore 5, 2) := by decide +kernel
theorem dL_isLine_227 : decode cL_isLine 227 = .ok (.iinc 6 1, 3) := by decide +kernel
theorem dL_isLine_230 : decode cL_isLine 230 = .ok (.goto (-120), 3) := by decide +kernel
theorem dL_isLine_233 : decode cL_isLine 233 = .ok (.iload 5, 2) := by decide +kernel
theorem dL_isLine_235 : decode cL_isLine 235 = .ok (.ireturn, 1) := by decide +kernel
def wL_isLine : List Cond := Cond.code yL_isLine cL_isLine 9 (some .boolean) :: WA
def f_L_isLine_b225 (F : Nat) (S : CS) (k110 : CD → Nat → Nat → Int32 → Int32 → Int32 → Int32 → Option (CD × Int32)) (D : CD) (x0 : Nat) (x1 : Nat) (x3 : Int32) (x4 : Int32) (x6 : Int32) (s0 : Int32) : Option (CD × Int32) := k110 D x0 x1 x3 x4 s0 (x6 + 1)
def f_L_isLine_b149 (F : Nat) (S : CS) (k110 : CD → Nat → Nat → Int32 → Int32 → Int32 → Int32 → Option (CD × Int32)) (D : CD) (x0 : Nat) (x1 : Nat) (x3 : Int32) (x4 : Int32) (x6 : Int32) (x7 : Int32) (s0 : Int32) : Option (CD × Int32) := cal (f_L_dx F S D x1 x7) fun t2 => (if (lg_cmp t2 0) ≤ 0 then f_L_isLine_b225 F S k110 D x0 x1 x3 x4 x6 0 else ckK S x1 8 <| rdI (S.2.2.2 x1) (D.2.2.1 x1) (4 * x7) fun t5 => (if x3 < t5 then f_L_isLine_b225 F S k110 D x0 x1 x3 x4 x6 0 else rdI (S.2.2.2 x1) (D.2.2.1 x1) ((4 * x7) + 2) fun t9 => (if t9 < x3 then f_L_isLine_b225 F S k110 D x0 x1 x3 x4 x6 0 else (if s0 < 0 then f_L_isLine_b225 F S k110 D x0 x1 x3 x4 x6 1 else cal (f_L_isAbove F S D x1 x7 s0 x3) fun t15 => (if t15 = 0 then cal (f_L_isAbove F S D x1 s0 x7 x3) fun t18 => (if t18 = 0 then (if x7 ≤ s0 then f_L_isLine_b225 F S k110 D x0 x1 x3 x4 x6 0 else f_L_isLine_b225 F S k110 D x0 x1 x3 x4 x6 1) else f_L_isLine_b225 F S k110 D x0 x1 x3 x4 x6 0) else f_L_isLine_b225 F S k110 D x0 x1 x3 x4 x6 1)))))
def f_L_isLine_L110 (F : Nat) (S : CS) : Nat → CD → Nat → Nat → Int32 → Int32 → Int32 → Int32 → Option (CD × Int32)
  | 0, _, _, _, _, _, _, _ => none
  | n110 + 1, D, x0, x1, x3, x4, x5, x6 => (if x4 ≤ x6 then okB x5 (some (D, x5)) else (if x5 = 0 then okB x5 (some (D, x5)) else ckK S x0 6 <| caM (f_X6_crossingAt F S D x0 x3 x6) fun D7 t8 => (if x6 = 0 then f_L_isLine_b149 F S ((f_L_isLine_L110 F S n110)) D7 x0 x1 x3 x4 x6 t8 ((-1)) else caM (f_X6_crossingAt F S D7 x0 x3 (x6 - 1)) fun D11 t12 => f_L_isLine_b149 F S ((f_L_isLine_L110 F S n110)) D11 x0 x1 x3 x4 x6 t8 t12)))
def f_L_isLine_b54 (F : Nat) (S : CS) (k6 : CD → Nat → Nat → Nat → Int32 → Int32 → Int32 → Option (CD × Int32)) (D : CD) (x0 : Nat) (x1 : Nat) (x2 : Nat) (x3 : Int32) (x5 : Int32) (s0 : Int32) (s1 : Int32) : Option (CD × Int32) := k6 D x0 x1 x2 x3 (s1 + s0) (x5 + 1)
def f_L_isLine_L6 (F : Nat) (S : CS) : Nat → CD → Nat → Nat → Nat → Int32 → Int32 → Int32 → Option (CD × Int32)
  | 0, _, _, _, _, _, _, _ => none
  | n6 + 1, D, x0, x1, x2, x3, x4, x5 => ckK S x2 8 <| rdI (S.2.2.2 x2) (D.2.2.1 x2) 0 fun t2 => (if t2 ≤ x5 then ckK S x0 6 <| cal (f_X6_crossing F S D x0 x3) fun t8 => (if t8 = x4 then caM (f_L_at F S D x0 2 x3 x4) fun D11 t12 => (if t12 = ((-601)) then caM (f_L_at F S D11 x0 2 x3 ((-1))) fun D15 t16 => (if t16 = ((-601)) then f_L_isLine_L110 F S F D15 x0 x1 x3 x4 1 0 else f_L_isLine_L110 F S F D15 x0 x1 x3 x4 0 0) else f_L_isLine_L110 F S F D11 x0 x1 x3 x4 0 0) else f_L_isLine_L110 F S F D x0 x1 x3 x4 0 0) else cal (f_L_dx F S D x1 x5) fun t19 => (if (lg_cmp t19 0) ≤ 0 then f_L_isLine_b54 F S ((f_L_isLine_L6 F S n6)) D x0 x1 x2 x3 x5 0 x4 else ckK S x1 8 <| rdI (S.2.2.2 x1) (D.2.2.1 x1) (4 * x5) fun t22 => (if x3 < t22 then f_L_isLine_b54 F S ((f_L_isLine_L6 F S n6)) D x0 x1 x2 x3 x5 0 x4 else rdI (S.2.2.2 x1) (D.2.2.1 x1) ((4 * x5) + 2) fun t26 => (if t26 < x3 then f_L_isLine_b54 F S ((f_L_isLine_L6 F S n6)) D x0 x1 x2 x3 x5 0 x4 else f_L_isLine_b54 F S ((f_L_isLine_L6 F S n6)) D x0 x1 x2 x3 x5 1 x4))))
def f_L_isLine (F : Nat) (S : CS) (D : CD) (a1 : Nat) (a2 : Nat) (a3 : Nat) (a4 : Int32) : Option (CD × Int32) := f_L_isLine_L6 F S F D a1 a2 a3 a4 0 0
set_option maxRecDepth 100000 in
set_option maxHeartbeats 4000000 in
theorem m_L_isLine (l : Launch) (hfl : l.stackTraces = false) (G : cG) (F : Nat) (S : CS) (z9 : Nat × Nat) (D D2 : CD) (a1 : Nat) (a2 : Nat) (a3 : Nat) (a4 : Int32) (r : Int32) (h : f_L_isLine F S D a1 a2 a3 a4 = some (D2, r)) : lMI l yL_isLine wL_isLine ({ frames := 11, cells := 2, slots := 12, locals := 430 }) G S z9 [.ref a1, .ref a2, .ref a3, .int a4] D D2 r 2 12 := by
  refine lBody (cc := cL_isLine) (maxL := 9) (ret := (some .boolean)) (by decide) rfl rfl ?_
  intro sz p e s m below meth c hC hv
  have hC0 := hC
  obtain ⟨hx, hb, -, hts, hown, -, hml, -, -, -⟩ := hC0
  have hP := hv.1.1.2.1
  have hv := lPr_of hv
  have hS : va_S (cA G S sz) s.heap s.heap [] := va_S.rf
  have L110 : ∀ (n110 : Nat) (H : Heap) (locs : List Loc) (ls : Array Slot) (D : CD) (x0 : Nat) (x1 : Nat) (x3 : Int32) (x4 : Int32) (x5 : Int32) (x6 : Int32), va_P G.1 vwCl (cW G S D) H → va_S (cA G S sz) s.heap H locs → lv_has ls 9 [(0, .ref x0), (1, .ref x1), (3, .int x3), (4, .int x4), (5, .int x5), (6, .int x6)] → f_L_isLine_L110 F S n110 D x0 x1 x3 x4 x5 x6 = some (D2, r) → W p l e (headSpec wL_isLine ({ frames := 11, cells := 2, slots := 12, locals := 430 })).room s m ([.ref a1, .ref a2, .ref a3, .int a4] : List Value).toArray below meth c H locs 2 12 (lQI below G S D2 sz ([.ref a1, .ref a2, .ref a3, .int a4] : List Value).toArray s r 2 12) (F0 m 110 ls []) := by
    intro n110
    induction n110 with
    | zero =>
      intro H locs ls D x0 x1 x3 x4 x5 x6 hP hS hl h
      rw [f_L_isLine_L110] at h; cases h
    | succ n110 ih110 =>
      have b225 : ∀ (H : Heap) (locs : List Loc) (ls : Array Slot) (D : CD) (x0 : Nat) (x1 : Nat) (x3 : Int32) (x4 : Int32) (x6 : Int32) (s0 : Int32), va_P G.1 vwCl (cW G S D) H → va_S (cA G S sz) s.heap H locs → lv_has ls 9 [(0, .ref x0), (1, .ref x1), (3, .int x3), (4, .int x4), (6, .int x6)] → f_L_isLine_b225 F S ((f_L_isLine_L110 F S n110)) D x0 x1 x3 x4 x6 s0 = some (D2, r) → W p l e (headSpec wL_isLine ({ frames := 11, cells := 2, slots := 12, locals := 430 })).room s m ([.ref a1, .ref a2, .ref a3, .int a4] : List Value).toArray below meth c H locs 2 12 (lQI below G S D2 sz ([.ref a1, .ref a2, .ref a3, .int a4] : List Value).toArray s r 2 12) (F0 m 225 ls [.int s0]) := by
        intro H locs ls D x0 x1 x3 x4 x6 s0 hP hS hl h
        unfold f_L_isLine_b225 at h
        refine lv_istore (lv' := [(5, .int s0), (0, .ref x0), (1, .ref x1), (3, .int x3), (4, .int x4), (6, .int x6)]) hx hb dL_isLine_225 hl (by decide) rfl (fun ls hl => ?_)
        refine lv_iinc (v := x6 + 1) (lv' := [(6, .int (x6 + 1)), (5, .int s0), (0, .ref x0), (1, .ref x1), (3, .int x3), (4, .int x4)]) hx hb dL_isLine_227 hl (k := 5) rfl rfl (by decide) rfl (fun ls hl => ?_)
        refine lv_goto (tgt := 110) hx hb dL_isLine_230 (by decide) ?_
        refine W.widen (k := 2) (n := 12) (Nat.le_of_ble_eq_true rfl) (Nat.le_of_ble_eq_true rfl) ?_
        exact ih110 _ _ _ D x0 x1 x3 x4 s0 (x6 + 1) hP hS (lv_sub hl [2, 3, 4, 5, 1, 0] rfl) h
      have b149 : ∀ (H : Heap) (locs : List Loc) (ls : Array Slot) (D : CD) (x0 : Nat) (x1 : Nat) (x3 : Int32) (x4 : Int32) (x6 : Int32) (x7 : Int32) (s0 : Int32), va_P G.1 vwCl (cW G S D) H → va_S (cA G S sz) s.heap H locs → lv_has ls 9 [(0, .ref x0), (1, .ref x1), (3, .int x3), (4, .int x4), (6, .int x6), (7, .int x7)] → f_L_isLine_b149 F S ((f_L_isLine_L110 F S n110)) D x0 x1 x3 x4 x6 x7 s0 = some (D2, r) → W p l e (headSpec wL_isLine ({ frames := 11, cells := 2, slots := 12, locals := 430 })).room s m ([.ref a1, .ref a2, .ref a3, .int a4] : List Value).toArray below meth c H locs 2 12 (lQI below G S D2 sz ([.ref a1, .ref a2, .ref a3, .int a4] : List Value).toArray s r 2 12) (F0 m 149 ls [.int s0]) := by
        intro H locs ls D x0 x1 x3 x4 x6 x7 s0 hP hS hl h
        unfold f_L_isLine_b149 at h
        refine lv_istore (lv' := [(8, .int s0), (0, .ref x0), (1, .ref x1), (3, .int x3), (4, .int x4), (6, .int x6), (7, .int x7)]) hx hb dL_isLine_149 hl (by decide) rfl (fun ls hl => ?_)
        refine lv_aload_n hx hb dL_isLine_151 rfl (lv_at hl 2 rfl) ?_
        refine lv_iload hx hb dL_isLine_152 (lv_at hl 6 rfl) ?_
        obtain ⟨t2, e1, h⟩ := cal_el h
        refine g_SL (As := [.ref x1, .int x7]) (rest := []) hC hP hS (m_L_dx l G F S D x1 x7 t2 e1) (va_cwS 2 hts (gSA wa_231 wa_232 wa_233 wa_201 (fun w h => h)) rfl rfl rfl (by decide +kernel) ⟨Nat.le_of_ble_eq_true rfl, Nat.le_of_ble_eq_true rfl⟩) rfl hl.1 rfl (Nat.le_of_ble_eq_true rfl) dL_isLine_154 ⟨Nat.le_of_ble_eq_true rfl, Nat.le_of_ble_eq_true rfl⟩ (fun H locs hP hS => ?_)
        refine lv_lconst (v := 0) hx hb dL_isLine_157 (by decide) ?_
        refine W.lcmp hx hb dL_isLine_158 ?_
        refine lv_if_le (tgt := 224) hx hb dL_isLine_159 (by decide) (fun u3 => ?_) (fun u3 => ?_)
        · have h := ite_t u3 h
          refine lv_iconst (v := 0) hx hb dL_isLine_224 (by decide) ?_
          refine W.widen (k := 2) (n := 12) (Nat.le_of_ble_eq_true rfl) (Nat.le_of_ble_eq_true rfl) ?_
          exact b225 _ _ _ D x0 x1 x3 x4 x6 0 hP hS (lv_sub hl [1, 2, 3, 4, 5] rfl) h
        · have h := ite_f u3 h
          refine lv_aload_n hx hb dL_isLine_162 rfl (lv_at hl 2 rfl) ?_
          refine lv_iconst (v := 4) hx hb dL_isLine_163 (by decide) ?_
          refine lv_iload hx hb dL_isLine_164 (lv_at hl 6 rfl) ?_
          refine lv_imul hx hb dL_isLine_166 ?_
          obtain ⟨z4, h⟩ := ckK_el h
          obtain ⟨y6, t5, e7, h⟩ := rdI_el h
          refine g_ild hC hP z4.1 z4.2 y6 e7 dL_isLine_167 ?_
          refine lv_iload_n hx hb dL_isLine_168 rfl (lv_at hl 3 rfl) ?_
          refine lv_icmp_gt (tgt := 224) hx hb dL_isLine_169 (by decide) (fun u8 => ?_) (fun u8 => ?_)
          · have h := ite_t u8 h
            refine lv_iconst (v := 0) hx hb dL_isLine_224 (by decide) ?_
            refine W.widen (k := 2) (n := 12) (Nat.le_of_ble_eq_true rfl) (Nat.le_of_ble_eq_true rfl) ?_
            exact b225 _ _ _ D x0 x1 x3 x4 x6 0 hP hS (lv_sub hl [1, 2, 3, 4, 5] rfl) h
          · have h := ite_f u8 h
            refine lv_aload_n hx hb dL_isLine_172 rfl (lv_at hl 2 rfl) ?_
            refine lv_iconst (v := 4) hx hb dL_isLine_173 (by decide) ?_
            refine lv_iload hx hb dL_isLine_174 (lv_at hl 6 rfl) ?_
            refine lv_imul hx hb dL_isLine_176 ?_
            refine lv_iconst (v := 2) hx hb dL_isLine_177 (by decide) ?_
            refine lv_iadd hx hb dL_isLine_178 ?_
            obtain ⟨y10, t9, e11, h⟩ := rdI_el h
            refine g_ild hC hP z4.1 z4.2 y10 e11 dL_isLine_179 ?_
            refine lv_iload_n hx hb dL_isLine_180 rfl (lv_at hl 3 rfl) ?_
            refine lv_icmp_lt (tgt := 224) hx hb dL_isLine_181 (by decide) (fun u12 => ?_) (fun u12 => ?_)
            · have h := ite_t u12 h
              refine lv_iconst (v := 0) hx hb dL_isLine_224 (by decide) ?_
              refine W.widen (k := 2) (n := 12) (Nat.le_of_ble_eq_true rfl) (Nat.le_of_ble_eq_true rfl) ?_
              exact b225 _ _ _ D x0 x1 x3 x4 x6 0 hP hS (lv_sub hl [1, 2, 3, 4, 5] rfl) h
            · have h := ite_f u12 h
              refine lv_iload hx hb dL_isLine_184 (lv_at hl 0 rfl) ?_
              refine lv_if_lt (tgt := 220) hx hb dL_isLine_186 (by decide) (fun u13 => ?_) (fun u13 => ?_)
              · have h := ite_t u13 h
                refine lv_iconst (v := 1) hx hb dL_isLine_220 (by decide) ?_
                refine lv_goto (tgt := 225) hx hb dL_isLine_221 (by decide) ?_
                refine W.widen (k := 2) (n := 12) (Nat.le_of_ble_eq_true rfl) (Nat.le_of_ble_eq_true rfl) ?_
                exact b225 _ _ _ D x0 x1 x3 x4 x6 1 hP hS (lv_sub hl [1, 2, 3, 4, 5] rfl) h
              · have h := ite_f u13 h
                refine lv_aload_n hx hb dL_isLine_189 rfl (lv_at hl 2 rfl) ?_
                refine lv_iload hx hb dL_isLine_190 (lv_at hl 6 rfl) ?_
                refine lv_iload hx hb dL_isLine_192 (lv_at hl 0 rfl) ?_
                refine lv_iload_n hx hb dL_isLine_194 rfl (lv_at hl 3 rfl) ?_
                obtain ⟨t15, e14, h⟩ := cal_el h
                refine g_SI (As := [.ref x1, .int x7, .int s0, .int x3]) (rest := []) hC hP hS (m_L_isAbove l G F S D x1 x7 s0 x3 t15 e14) (va_cwS 4 hts (gSA wa_253 wa_254 wa_233 wa_249 (fun w h => h)) rfl rfl rfl (by decide +kernel) ⟨Nat.le_of_ble_eq_true rfl, Nat.le_of_ble_eq_true rfl⟩) rfl hl.1 rfl (Nat.le_of_ble_eq_true rfl) dL_isLine_195 ⟨Nat.le_of_ble_eq_true rfl, Nat.le_of_ble_eq_true rfl⟩ (fun H locs hP hS => ?_)
                refine lv_if_ne (tgt := 220) hx hb dL_isLine_198 (by decide) (fun u16 => ?_) (fun u16 => ?_)
                · have h := ite_f u16 h
                  refine lv_iconst (v := 1) hx hb dL_isLine_220 (by decide) ?_
                  refine lv_goto (tgt := 225) hx hb dL_isLine_221 (by decide) ?_
                  refine W.widen (k := 2) (n := 12) (Nat.le_of_ble_eq_true rfl) (Nat.le_of_ble_eq_true rfl) ?_
                  exact b225 _ _ _ D x0 x1 x3 x4 x6 1 hP hS (lv_sub hl [1, 2, 3, 4, 5] rfl) h
                · have h := ite_t u16 h
                  refine lv_aload_n hx hb dL_isLine_201 rfl (lv_at hl 2 rfl) ?_
                  refine lv_iload hx hb dL_isLine_202 (lv_at hl 0 rfl) ?_
                  refine lv_iload hx hb dL_isLine_204 (lv_at hl 6 rfl) ?_
                  refine lv_iload_n hx hb dL_isLine_206 rfl (lv_at hl 3 rfl) ?_
                  obtain ⟨t18, e17, h⟩ := cal_el h
                  refine g_SI (As := [.ref x1, .int s0, .int x7, .int x3]) (rest := []) hC hP hS (m_L_isAbove l G F S D x1 s0 x7 x3 t18 e17) (va_cwS 4 hts (gSA wa_253 wa_254 wa_233 wa_249 (fun w h => h)) rfl rfl rfl (by decide +kernel) ⟨Nat.le_of_ble_eq_true rfl, Nat.le_of_ble_eq_true rfl⟩) rfl hl.1 rfl (Nat.le_of_ble_eq_true rfl) dL_isLine_207 ⟨Nat.le_of_ble_eq_true rfl, Nat.le_of_ble_eq_true rfl⟩ (fun H locs hP hS => ?_)
                  refine lv_if_ne (tgt := 224) hx hb dL_isLine_210 (by decide) (fun u19 => ?_) (fun u19 => ?_)
                  · have h := ite_f u19 h
                    refine lv_iconst (v := 0) hx hb dL_isLine_224 (by decide) ?_
                    refine W.widen (k := 2) (n := 12) (Nat.le_of_ble_eq_true rfl) (Nat.le_of_ble_eq_true rfl) ?_
                    exact b225 _ _ _ D x0 x1 x3 x4 x6 0 hP hS (lv_sub hl [1, 2, 3, 4, 5] rfl) h
                  · have h := ite_t u19 h
                    refine lv_iload hx hb dL_isLine_213 (lv_at hl 0 rfl) ?_
                    refine lv_iload hx hb dL_isLine_215 (lv_at hl 6 rfl) ?_
                    refine lv_icmp_ge (tgt := 224) hx hb dL_isLine_217 (by decide) (fun u20 => ?_) (fun u20 => ?_)
                    · have h := ite_t u20 h
                      refine lv_iconst (v := 0) hx hb dL_isLine_224 (by decide) ?_
                      refine W.widen (k := 2) (n := 12) (Nat.le_of_ble_eq_true rfl) (Nat.le_of_ble_eq_true rfl) ?_
                      exact b225 _ _ _ D x0 x1 x3 x4 x6 0 hP hS (lv_sub hl [1, 2, 3, 4, 5] rfl) h
                    · have h := ite_f u20 h
                      refine lv_iconst (v := 1) hx hb dL_isLine_220 (by decide) ?_
                      refine lv_goto (tgt := 225) hx hb dL_isLine_221 (by decide) ?_
                      refine W.widen (k := 2) (n := 12) (Nat.le_of_ble_eq_true rfl) (Nat.le_of_ble_eq_true rfl) ?_
                      exact b225 _ _ _ D x0 x1 x3 x4 x6 1 hP hS (lv_sub hl [1, 2, 3, 4, 5] rfl) h
      intro H locs ls D x0 x1 x3 x4 x5 x6 hP hS hl h
      rw [f_L_isLine_L110] at h
      refine lv_iload hx hb dL_isLine_110 (lv_at hl 5 rfl) ?_
      refine lv_iload hx hb dL_isLine_112 (lv_at hl 3 rfl) ?_
      refine lv_icmp_ge (tgt := 233) hx hb dL_isLine_114 (by decide) (fun u1 => ?_) (fun u1 => ?_)
      · have h := ite_t u1 h
        refine lv_iload hx hb dL_isLine_233 (lv_at hl 4 rfl) ?_
        obtain ⟨z2, h⟩ := okB_el h
        cases h
        exact g_zret hC hP hS z2 rfl (Nat.le_of_ble_eq_true rfl) (Nat.le_of_ble_eq_true rfl) dL_isLine_235
      · have h := ite_f u1 h
        refine lv_iload hx hb dL_isLine_117 (lv_at hl 4 rfl) ?_
        refine lv_if_eq (tgt := 233) hx hb dL_isLine_119 (by decide) (fun u3 => ?_) (fun u3 => ?_)
        · have h := ite_t u3 h
          refine lv_iload hx hb dL_isLine_233 (lv_at hl 4 rfl) ?_
          obtain ⟨z4, h⟩ := okB_el h
          cases h
          exact g_zret hC hP hS z4 rfl (Nat.le_of_ble_eq_true rfl) (Nat.le_of_ble_eq_true rfl) dL_isLine_235
        · have h := ite_f u3 h
          refine lv_aload_n hx hb dL_isLine_122 rfl (lv_at hl 0 rfl) ?_
          refine lv_iload_n hx hb dL_isLine_123 rfl (lv_at hl 2 rfl) ?_
          refine lv_iload hx hb dL_isLine_124 (lv_at hl 5 rfl) ?_
          obtain ⟨z5, h⟩ := ckK_el h
          obtain ⟨D7, t8, e6, h⟩ := caM_el h
          refine g_VI (As := [.int x3, .int x6]) (rest := []) hC hP hS z5.1 (cE_6 z5.2) (C := RX6) (T := TX6) (N := 8) rfl (m_X6_crossingAt l G F S D D7 x0 x3 x6 t8 e6) (cwV 2 hts (gVA wa_195 wa_196 wa_197 (hWCA _ wc_66) wa_134 (fun w h => h)) rfl rfl rfl (by decide +kernel) ⟨Nat.le_of_ble_eq_true rfl, Nat.le_of_ble_eq_true rfl⟩) rfl hl.1 rfl (Nat.le_of_ble_eq_true rfl) dL_isLine_126 ⟨Nat.le_of_ble_eq_true rfl, Nat.le_of_ble_eq_true rfl⟩ (fun H locs hP hS => ?_)
          refine lv_istore (lv' := [(7, .int t8), (0, .ref x0), (1, .ref x1), (3, .int x3), (4, .int x4), (5, .int x5), (6, .int x6)]) hx hb dL_isLine_129 hl (by decide) rfl (fun ls hl => ?_)
          refine lv_iload hx hb dL_isLine_131 (lv_at hl 6 rfl) ?_
          refine lv_if_ne (tgt := 140) hx hb dL_isLine_133 (by decide) (fun u9 => ?_) (fun u9 => ?_)
          · have h := ite_f u9 h
            refine lv_aload_n hx hb dL_isLine_140 rfl (lv_at hl 1 rfl) ?_
            refine lv_iload_n hx hb dL_isLine_141 rfl (lv_at hl 3 rfl) ?_
            refine lv_iload hx hb dL_isLine_142 (lv_at hl 6 rfl) ?_
            refine lv_iconst (v := 1) hx hb dL_isLine_144 (by decide) ?_
            refine lv_isub hx hb dL_isLine_145 ?_
            obtain ⟨D11, t12, e10, h⟩ := caM_el h
            refine g_VI (As := [.int x3, .int (x6 - 1)]) (rest := []) hC hP hS z5.1 (cE_6 z5.2) (C := RX6) (T := TX6) (N := 8) rfl (m_X6_crossingAt l G F S D7 D11 x0 x3 (x6 - 1) t12 e10) (cwV 2 hts (gVA wa_195 wa_196 wa_197 (hWCA _ wc_66) wa_134 (fun w h => h)) rfl rfl rfl (by decide +kernel) ⟨Nat.le_of_ble_eq_true rfl, Nat.le_of_ble_eq_true rfl⟩) rfl hl.1 rfl (Nat.le_of_ble_eq_true rfl) dL_isLine_146 ⟨Nat.le_of_ble_eq_true rfl, Nat.le_of_ble_eq_true rfl⟩ (fun H locs hP hS => ?_)
            refine W.widen (k := 2) (n := 12) (Nat.le_of_ble_eq_true rfl) (Nat.le_of_ble_eq_true rfl) ?_
            exact b149 _ _ _ D11 x0 x1 x3 x4 x6 t8 t12 hP hS (lv_sub hl [1, 2, 3, 4, 6, 0] rfl) h
          · have h := ite_t u9 h
            refine lv_iconst (v := (-1)) hx hb dL_isLine_136 (by decide) ?_
            refine lv_goto (tgt := 149) hx hb dL_isLine_137 (by decide) ?_
            refine W.widen (k := 2) (n := 12) (Nat.le_of_ble_eq_true rfl) (Nat.le_of_ble_eq_true rfl) ?_
            exact b149 _ _ _ D7 x0 x1 x3 x4 x6 t8 ((-1)) hP hS (lv_sub hl [1, 2, 3, 4, 6, 0] rfl) h
  have L6 : ∀ (n6 : Nat) (H : Heap) (locs : List Loc) (ls : Array Slot) (D : CD) (x0 : Nat) (x1 : Nat) (x2 : Nat) (x3 : Int32) (x4 : Int32) (x5 : Int32), va_P G.1 vwCl (cW G S D) H → va_S (cA G S sz) s.heap H locs → lv_has ls 9 [(0, .ref x0), (1, .ref x1), (2, .ref x2), (3, .int x3), (4, .int x4), (5, .int x5)] → f_L_isLine_L6 F S n6 D x0 x1 x2 x3 x4 x5 = some (D2, r) → W p l e (headSpec wL_isLine ({ frames := 11, cells := 2, slots := 12, locals := 430 })).room s m ([.ref a1, .ref a2, .ref a3, .int a4] : List Value).toArray below meth c H locs 0 0 (lQI below G S D2 sz ([.ref a1, .ref a2, .ref a3, .int a4] : List Value).toArray s r 2 12) (F0 m 6 ls []) := by
    intro n6
    induction n6 with
    | zero =>
      intro H locs ls D x0 x1 x2 x3 x4 x5 hP hS hl h
      rw [f_L_isLine_L6] at h; cases h
    | succ n6 ih6 =>
      have b54 : ∀ (H : Heap) (locs : List Loc) (ls : Array Slot) (D : CD) (x0 : Nat) (x1 : Nat) (x2 : Nat) (x3 : Int32) (x5 : Int32) (s0 : Int32) (s1 : Int32), va_P G.1 vwCl (cW G S D) H → va_S (cA G S sz) s.heap H locs → lv_has ls 9 [(0, .ref x0), (1, .ref x1), (2, .ref x2), (3, .int x3), (5, .int x5)] → f_L_isLine_b54 F S ((f_L_isLine_L6 F S n6)) D x0 x1 x2 x3 x5 s0 s1 = some (D2, r) → W p l e (headSpec wL_isLine ({ frames := 11, cells := 2, slots := 12, locals := 430 })).room s m ([.ref a1, .ref a2, .ref a3, .int a4] : List Value).toArray below meth c H locs 0 0 (lQI below G S D2 sz ([.ref a1, .ref a2, .ref a3, .int a4] : List Value).toArray s r 2 12) (F0 m 54 ls [.int s0, .int s1]) := by
        intro H locs ls D x0 x1 x2 x3 x5 s0 s1 hP hS hl h
        unfold f_L_isLine_b54 at h
        refine lv_iadd hx hb dL_isLine_54 ?_
        refine lv_istore (lv' := [(4, .int (s1 + s0)), (0, .ref x0), (1, .ref x1), (2, .ref x2), (3, .int x3), (5, .int x5)]) hx hb dL_isLine_55 hl (by decide) rfl (fun ls hl => ?_)
        refine lv_iinc (v := x5 + 1) (lv' := [(5, .int (x5 + 1)), (4, .int (s1 + s0)), (0, .ref x0), (1, .ref x1), (2, .ref x2), (3, .int x3)]) hx hb dL_isLine_57 hl (k := 5) rfl rfl (by decide) rfl (fun ls hl => ?_)
        refine lv_goto (tgt := 6) hx hb dL_isLine_60 (by decide) ?_
        refine W.widen (k := 0) (n := 0) (Nat.le_of_ble_eq_true rfl) (Nat.le_of_ble_eq_true rfl) ?_
        exact ih6 _ _ _ D x0 x1 x2 x3 (s1 + s0) (x5 + 1) hP hS (lv_sub hl [2, 3, 4, 5, 1, 0] rfl) h
      intro H locs ls D x0 x1 x2 x3 x4 x5 hP hS hl h
      rw [f_L_isLine_L6] at h
      refine lv_iload hx hb dL_isLine_6 (lv_at hl 5 rfl) ?_
      refine lv_aload_n hx hb dL_isLine_8 rfl (lv_at hl 2 rfl) ?_
      refine lv_iconst (v := 0) hx hb dL_isLine_9 (by decide) ?_
      obtain ⟨z1, h⟩ := ckK_el h
      obtain ⟨y3, t2, e4, h⟩ := rdI_el h
      refine g_ild hC hP z1.1 z1.2 y3 e4 dL_isLine_10 ?_
      refine lv_icmp_ge (tgt := 63) hx hb dL_isLine_11 (by decide) (fun u5 => ?_) (fun u5 => ?_)
      · have h := ite_t u5 h
        refine lv_aload_n hx hb dL_isLine_63 rfl (lv_at hl 0 rfl) ?_
        refine lv_iload_n hx hb dL_isLine_64 rfl (lv_at hl 3 rfl) ?_
        obtain ⟨z6, h⟩ := ckK_el h
        obtain ⟨t8, e7, h⟩ := cal_el h
        refine g_VI (As := [.int x3]) (rest := []) hC hP hS z6.1 (cE_6 z6.2) (C := RX6) (T := TX6) (N := 8) rfl (m_X6_crossing l G F S D x0 x3 t8 e7) (cwV 1 hts (gVA wa_192 wa_193 wa_194 (hWCA _ wc_66) (hWCA _ wc_183) hWCA) rfl rfl rfl (by decide +kernel) ⟨Nat.le_of_ble_eq_true rfl, Nat.le_of_ble_eq_true rfl⟩) rfl hl.1 rfl (Nat.le_of_ble_eq_true rfl) dL_isLine_65 ⟨Nat.le_of_ble_eq_true rfl, Nat.le_of_ble_eq_true rfl⟩ (fun H locs hP hS => ?_)
        refine lv_iload hx hb dL_isLine_68 (lv_at hl 4 rfl) ?_
        refine lv_icmp_ne (tgt := 104) hx hb dL_isLine_70 (by decide) (fun u9 => ?_) (fun u9 => ?_)
        · have h := ite_f u9 h
          refine lv_iconst (v := 0) hx hb dL_isLine_104 (by decide) ?_
          refine lv_istore (lv' := [(5, .int 0), (0, .ref x0), (1, .ref x1), (2, .ref x2), (3, .int x3), (4, .int x4)]) hx hb dL_isLine_105 hl (by decide) rfl (fun ls hl => ?_)
          refine lv_iconst (v := 0) hx hb dL_isLine_107 (by decide) ?_
          refine lv_istore (lv' := [(6, .int 0), (5, .int 0), (0, .ref x0), (1, .ref x1), (2, .ref x2), (3, .int x3), (4, .int x4)]) hx hb dL_isLine_108 hl (by decide) rfl (fun ls hl => ?_)
          refine W.widen (k := 2) (n := 12) (Nat.le_of_ble_eq_true rfl) (Nat.le_of_ble_eq_true rfl) ?_
          exact L110 F _ _ _ D x0 x1 x3 x4 0 0 hP hS (lv_sub hl [2, 3, 5, 6, 1, 0] rfl) h
        · have h := ite_t u9 h
          refine lv_aload_n hx hb dL_isLine_73 rfl (lv_at hl 0 rfl) ?_
          refine lv_iconst (v := 2) hx hb dL_isLine_74 (by decide) ?_
          refine lv_iload_n hx hb dL_isLine_75 rfl (lv_at hl 3 rfl) ?_
          refine lv_iload hx hb dL_isLine_76 (lv_at hl 4 rfl) ?_
          obtain ⟨D11, t12, e10, h⟩ := caM_el h
          refine g_SX (As := [.ref x0, .int 2, .int x3, .int x4]) (rest := []) (mc := 1) (ms := 6) hC hv hP hS (m_L_at l hfl G F S z9 D D11 x0 2 x3 x4 t12 e10) (vx_cwSW 4 hts (gSX wa_256 wa_257 wa_233 wa_188) rfl rfl rfl (by decide +kernel) ⟨Nat.le_of_ble_eq_true rfl, Nat.le_of_ble_eq_true rfl⟩) rfl hl.1 rfl (Nat.le_of_ble_eq_true rfl) dL_isLine_78 ⟨Nat.le_of_ble_eq_true rfl, Nat.le_of_ble_eq_true rfl⟩ (fun H locs hP hS => ?_)
          refine lv_sipush (v := (-601)) hx hb dL_isLine_81 (by decide) ?_
          refine lv_icmp_ne (tgt := 104) hx hb dL_isLine_84 (by decide) (fun u13 => ?_) (fun u13 => ?_)
          · have h := ite_f u13 h
            refine lv_iconst (v := 0) hx hb dL_isLine_104 (by decide) ?_
            refine lv_istore (lv' := [(5, .int 0), (0, .ref x0), (1, .ref x1), (2, .ref x2), (3, .int x3), (4, .int x4)]) hx hb dL_isLine_105 hl (by decide) rfl (fun ls hl => ?_)
            refine lv_iconst (v := 0) hx hb dL_isLine_107 (by decide) ?_
            refine lv_istore (lv' := [(6, .int 0), (5, .int 0), (0, .ref x0), (1, .ref x1), (2, .ref x2), (3, .int x3), (4, .int x4)]) hx hb dL_isLine_108 hl (by decide) rfl (fun ls hl => ?_)
            refine W.widen (k := 2) (n := 12) (Nat.le_of_ble_eq_true rfl) (Nat.le_of_ble_eq_true rfl) ?_
            exact L110 F _ _ _ D11 x0 x1 x3 x4 0 0 hP hS (lv_sub hl [2, 3, 5, 6, 1, 0] rfl) h
          · have h := ite_t u13 h
            refine lv_aload_n hx hb dL_isLine_87 rfl (lv_at hl 0 rfl) ?_
            refine lv_iconst (v := 2) hx hb dL_isLine_88 (by decide) ?_
            refine lv_iload_n hx hb dL_isLine_89 rfl (lv_at hl 3 rfl) ?_
            refine lv_iconst (v := (-1)) hx hb dL_isLine_90 (by decide) ?_
            obtain ⟨D15, t16, e14, h⟩ := caM_el h
            refine g_SX (As := [.ref x0, .int 2, .int x3, .int ((-1))]) (rest := []) (mc := 1) (ms := 6) hC hv hP hS (m_L_at l hfl G F S z9 D11 D15 x0 2 x3 ((-1)) t16 e14) (vx_cwSW 4 hts (gSX wa_256 wa_257 wa_233 wa_188) rfl rfl rfl (by decide +kernel) ⟨Nat.le_of_ble_eq_true rfl, Nat.le_of_ble_eq_true rfl⟩) rfl hl.1 rfl (Nat.le_of_ble_eq_true rfl) dL_isLine_91 ⟨Nat.le_of_ble_eq_true rfl, Nat.le_of_ble_eq_true rfl⟩ (fun H locs hP hS => ?_)
            refine lv_sipush (v := (-601)) hx hb dL_isLine_94 (by decide) ?_
            refine lv_icmp_ne (tgt := 104) hx hb dL_isLine_97 (by decide) (fun u17 => ?_) (fun u17 => ?_)
            · have h := ite_f u17 h
              refine lv_iconst (v := 0) hx hb dL_isLine_104 (by decide) ?_
              refine lv_istore (lv' := [(5, .int 0), (0, .ref x0), (1, .ref x1), (2, .ref x2), (3, .int x3), (4, .int x4)]) hx hb dL_isLine_105 hl (by decide) rfl (fun ls hl => ?_)
              refine lv_iconst (v := 0) hx hb dL_isLine_107 (by decide) ?_
              refine lv_istore (lv' := [(6, .int 0), (5, .int 0), (0, .ref x0), (1, .ref x1), (2, .ref x2), (3, .int x3), (4, .int x4)]) hx hb dL_isLine_108 hl (by decide) rfl (fun ls hl => ?_)
              refine W.widen (k := 2) (n := 12) (Nat.le_of_ble_eq_true rfl) (Nat.le_of_ble_eq_true rfl) ?_
              exact L110 F _ _ _ D15 x0 x1 x3 x4 0 0 hP hS (lv_sub hl [2, 3, 5, 6, 1, 0] rfl) h
            · have h := ite_t u17 h
              refine lv_iconst (v := 1) hx hb dL_isLine_100 (by decide) ?_
              refine lv_goto (tgt := 105) hx hb dL_isLine_101 (by decide) ?_
              refine lv_istore (lv' := [(5, .int 1), (0, .ref x0), (1, .ref x1), (2, .ref x2), (3, .int x3), (4, .int x4)]) hx hb dL_isLine_105 hl (by decide) rfl (fun ls hl => ?_)
              refine lv_iconst (v := 0) hx hb dL_isLine_107 (by decide) ?_
              refine lv_istore (lv' := [(6, .int 0), (5, .int 1), (0, .ref x0), (1, .ref x1), (2, .ref x2), (3, .int x3), (4, .int x4)]) hx hb dL_isLine_108 hl (by decide) rfl (fun ls hl => ?_)
              refine W.widen (k := 2) (n := 12) (Nat.le_of_ble_eq_true rfl) (Nat.le_of_ble_eq_true rfl) ?_
              exact L110 F _ _ _ D15 x0 x1 x3 x4 1 0 hP hS (lv_sub hl [2, 3, 5, 6, 1, 0] rfl) h
      · have h := ite_f u5 h
        refine lv_iload hx hb dL_isLine_14 (lv_at hl 4 rfl) ?_
        refine lv_aload_n hx hb dL_isLine_16 rfl (lv_at hl 1 rfl) ?_
        refine lv_iload hx hb dL_isLine_17 (lv_at hl 5 rfl) ?_
        obtain ⟨t19, e18, h⟩ := cal_el h
        refine g_SL (As := [.ref x1, .int x5]) (rest := [.int x4]) hC hP hS (m_L_dx l G F S D x1 x5 t19 e18) (va_cwS 2 hts (gSA wa_231 wa_232 wa_233 wa_201 (fun w h => h)) rfl rfl rfl (by decide +kernel) ⟨Nat.le_of_ble_eq_true rfl, Nat.le_of_ble_eq_true rfl⟩) rfl hl.1 rfl (Nat.le_of_ble_eq_true rfl) dL_isLine_19 ⟨Nat.le_of_ble_eq_true rfl, Nat.le_of_ble_eq_true rfl⟩ (fun H locs hP hS => ?_)
        refine lv_lconst (v := 0) hx hb dL_isLine_22 (by decide) ?_
        refine W.lcmp hx hb dL_isLine_23 ?_
        refine lv_if_le (tgt := 53) hx hb dL_isLine_24 (by decide) (fun u20 => ?_) (fun u20 => ?_)
        · have h := ite_t u20 h
          refine lv_iconst (v := 0) hx hb dL_isLine_53 (by decide) ?_
          refine W.widen (k := 0) (n := 0) (Nat.le_of_ble_eq_true rfl) (Nat.le_of_ble_eq_true rfl) ?_
          exact b54 _ _ _ D x0 x1 x2 x3 x5 0 x4 hP hS (lv_sub hl [0, 1, 2, 3, 5] rfl) h
        · have h := ite_f u20 h
          refine lv_aload_n hx hb dL_isLine_27 rfl (lv_at hl 1 rfl) ?_
          refine lv_iconst (v := 4) hx hb dL_isLine_28 (by decide) ?_
          refine lv_iload hx hb dL_isLine_29 (lv_at hl 5 rfl) ?_
          refine lv_imul hx hb dL_isLine_31 ?_
          obtain ⟨z21, h⟩ := ckK_el h
          obtain ⟨y23, t22, e24, h⟩ := rdI_el h
          refine g_ild hC hP z21.1 z21.2 y23 e24 dL_isLine_32 ?_
          refine lv_iload_n hx hb dL_isLine_33 rfl (lv_at hl 3 rfl) ?_
          refine lv_icmp_gt (tgt := 53) hx hb dL_isLine_34 (by decide) (fun u25 => ?_) (fun u25 => ?_)
          · have h := ite_t u25 h
            refine lv_iconst (v := 0) hx hb dL_isLine_53 (by decide) ?_
            refine W.widen (k := 0) (n := 0) (Nat.le_of_ble_eq_true rfl) (Nat.le_of_ble_eq_true rfl) ?_
            exact b54 _ _ _ D x0 x1 x2 x3 x5 0 x4 hP hS (lv_sub hl [0, 1, 2, 3, 5] rfl) h
          · have h := ite_f u25 h
            refine lv_aload_n hx hb dL_isLine_37 rfl (lv_at hl 1 rfl) ?_
            refine lv_iconst (v := 4) hx hb dL_isLine_38 (by decide) ?_
            refine lv_iload hx hb dL_isLine_39 (lv_at hl 5 rfl) ?_
            refine lv_imul hx hb dL_isLine_41 ?_
            refine lv_iconst (v := 2) hx hb dL_isLine_42 (by decide) ?_
            refine lv_iadd hx hb dL_isLine_43 ?_
            obtain ⟨y27, t26, e28, h⟩ := rdI_el h
            refine g_ild hC hP z21.1 z21.2 y27 e28 dL_isLine_44 ?_
            refine lv_iload_n hx hb dL_isLine_45 rfl (lv_at hl 3 rfl) ?_
            refine lv_icmp_lt (tgt := 53) hx hb dL_isLine_46 (by decide) (fun u29 => ?_) (fun u29 => ?_)
            · have h := ite_t u29 h
              refine lv_iconst (v := 0) hx hb dL_isLine_53 (by decide) ?_
              refine W.widen (k := 0) (n := 0) (Nat.le_of_ble_eq_true rfl) (Nat.le_of_ble_eq_true rfl) ?_
              exact b54 _ _ _ D x0 x1 x2 x3 x5 0 x4 hP hS (lv_sub hl [0, 1, 2, 3, 5] rfl) h
            · have h := ite_f u29 h
              refine lv_iconst (v := 1) hx hb dL_isLine_49 (by decide) ?_
              refine lv_goto (tgt := 54) hx hb dL_isLine_50 (by decide) ?_
              refine W.widen (k := 0) (n := 0) (Nat.le_of_ble_eq_true rfl) (Nat.le_of_ble_eq_true rfl) ?_
              exact b54 _ _ _ D x0 x1 x2 x3 x5 1 x4 hP hS (lv_sub hl [0, 1, 2, 3, 5] rfl) h
  refine m_entry (Nat.le_of_ble_eq_true rfl) (fun ls hl => ?_)
  have hl : lv_has ls 9 [(0, .ref a1), (1, .ref a2), (2, .ref a3), (3, .int a4)] := hl
  unfold f_L_isLine at h
  refine lv_iconst (v := 0) hx hb dL_isLine_0 (by decide) ?_
  refine lv_istore (lv' := [(4, .int 0), (0, .ref a1), (1, .ref a2), (2, .ref a3), (3, .int a4)]) hx hb dL_isLine_1 hl (by decide) rfl (fun ls hl => ?_)
  refine lv_iconst (v := 0) hx hb dL_isLine_3 (by decide) ?_
  refine lv_istore (lv' := [(5, .int 0), (4, .int 0), (0, .ref a1), (1, .ref a2), (2, .ref a3), (3, .int a4)]) hx hb dL_isLine_4 hl (by decide) rfl (fun ls hl => ?_)
  refine W.widen (k := 0) (n := 0) (Nat.le_of_ble_eq_true rfl) (Nat.le_of_ble_eq_true rfl) ?_
  exact L6 F _ _ _ D a1 a2 a3 a4 0 0 hP hS (lv_sub hl [2, 3, 4, 5, 1, 0] rfl) h
