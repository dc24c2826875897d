/-! The law, case by case. -/
theorem l_in (k : Nat) {x4 : Int32} {i L : Nat} (ex4 : x4 = nI i) (h : i + k < L) (hL : L ≤ 2560) : vp_in (x4 + nI k) L := by
  rw [ex4, nI_add]
  exact vp_in_nI h (by omega)
theorem dlw_144 : decode code 144 = .ok (.aload_n 1, 1) := by decide +kernel
theorem dlw_145 : decode code 145 = .ok (.aload_n 0, 1) := by decide +kernel
theorem dlw_146 : decode code 146 = .ok (.iload 4, 2) := by decide +kernel
theorem dlw_148 : decode code 148 = .ok (.iconst 1, 1) := by decide +kernel
theorem dlw_149 : decode code 149 = .ok (.iadd, 1) := by decide +kernel
theorem dlw_150 : decode code 150 = .ok (.iaload, 1) := by decide +kernel
theorem dlw_151 : decode code 151 = .ok (.aload_n 0, 1) := by decide +kernel
theorem dlw_152 : decode code 152 = .ok (.iload 4, 2) := by decide +kernel
theorem dlw_154 : decode code 154 = .ok (.iconst 2, 1) := by decide +kernel
theorem dlw_155 : decode code 155 = .ok (.iadd, 1) := by decide +kernel
theorem dlw_156 : decode code 156 = .ok (.iaload, 1) := by decide +kernel
theorem dlw_157 : decode code 157 = .ok (.aload_n 0, 1) := by decide +kernel
theorem dlw_158 : decode code 158 = .ok (.iload 4, 2) := by decide +kernel
theorem dlw_160 : decode code 160 = .ok (.iconst 3, 1) := by decide +kernel
theorem dlw_161 : decode code 161 = .ok (.iadd, 1) := by decide +kernel
theorem dlw_162 : decode code 162 = .ok (.iaload, 1) := by decide +kernel
theorem dlw_163 : decode code 163 = .ok (.aload_n 0, 1) := by decide +kernel
theorem dlw_164 : decode code 164 = .ok (.iload 4, 2) := by decide +kernel
theorem dlw_166 : decode code 166 = .ok (.iconst 4, 1) := by decide +kernel
theorem dlw_167 : decode code 167 = .ok (.iadd, 1) := by decide +kernel
theorem dlw_168 : decode code 168 = .ok (.iaload, 1) := by decide +kernel
theorem dlw_169 : decode code 169 = .ok (.aload_n 3, 1) := by decide +kernel
theorem dlw_170 : decode code 170 = .ok (.invokestatic 77, 3) := by decide +kernel
theorem dlw_173 : decode code 173 = .ok (.istore 5, 2) := by decide +kernel
theorem dlw_175 : decode code 175 = .ok (.aload_n 2, 1) := by decide +kernel
theorem dlw_176 : decode code 176 = .ok (.aload_n 0, 1) := by decide +kernel
theorem dlw_177 : decode code 177 = .ok (.iload 4, 2) := by decide +kernel
theorem dlw_179 : decode code 179 = .ok (.iconst 1, 1) := by decide +kernel
theorem dlw_180 : decode code 180 = .ok (.iadd, 1) := by decide +kernel
theorem dlw_181 : decode code 181 = .ok (.iaload, 1) := by decide +kernel
theorem dlw_182 : decode code 182 = .ok (.aload_n 0, 1) := by decide +kernel
theorem dlw_183 : decode code 183 = .ok (.iload 4, 2) := by decide +kernel
theorem dlw_185 : decode code 185 = .ok (.iconst 2, 1) := by decide +kernel
theorem dlw_186 : decode code 186 = .ok (.iadd, 1) := by decide +kernel
theorem dlw_187 : decode code 187 = .ok (.iaload, 1) := by decide +kernel
theorem dlw_188 : decode code 188 = .ok (.aload_n 0, 1) := by decide +kernel
theorem dlw_189 : decode code 189 = .ok (.iload 4, 2) := by decide +kernel
theorem dlw_191 : decode code 191 = .ok (.iconst 3, 1) := by decide +kernel
theorem dlw_192 : decode code 192 = .ok (.iadd, 1) := by decide +kernel
theorem dlw_193 : decode code 193 = .ok (.iaload, 1) := by decide +kernel
theorem dlw_194 : decode code 194 = .ok (.aload_n 0, 1) := by decide +kernel
theorem dlw_195 : decode code 195 = .ok (.iload 4, 2) := by decide +kernel
theorem dlw_197 : decode code 197 = .ok (.iconst 4, 1) := by decide +kernel
theorem dlw_198 : decode code 198 = .ok (.iadd, 1) := by decide +kernel
theorem dlw_199 : decode code 199 = .ok (.iaload, 1) := by decide +kernel
theorem dlw_200 : decode code 200 = .ok (.invokevirtual 82, 3) := by decide +kernel
theorem dlw_203 : decode code 203 = .ok (.istore 6, 2) := by decide +kernel
theorem dlw_205 : decode code 205 = .ok (.aload_n 2, 1) := by decide +kernel
theorem dlw_206 : decode code 206 = .ok (.invokevirtual 83, 3) := by decide +kernel
theorem dlw_209 : decode code 209 = .ok (.iload 5, 2) := by decide +kernel
theorem dlw_211 : decode code 211 = .ok (.if_icmp .eq 5, 3) := by decide +kernel
theorem dlw_214 : decode code 214 = .ok (.iconst 0, 1) := by decide +kernel
theorem dlw_215 : decode code 215 = .ok (.ireturn, 1) := by decide +kernel
theorem dlw_216 : decode code 216 = .ok (.iload 5, 2) := by decide +kernel
theorem dlw_218 : decode code 218 = .ok (.ifCond .ne 15, 3) := by decide +kernel
theorem dlw_221 : decode code 221 = .ok (.aload_n 3, 1) := by decide +kernel
theorem dlw_222 : decode code 222 = .ok (.iconst 0, 1) := by decide +kernel
theorem dlw_223 : decode code 223 = .ok (.laload, 1) := by decide +kernel
theorem dlw_224 : decode code 224 = .ok (.iload 6, 2) := by decide +kernel
theorem dlw_226 : decode code 226 = .ok (.i2l, 1) := by decide +kernel
theorem dlw_227 : decode code 227 = .ok (.lcmp, 1) := by decide +kernel
theorem dlw_228 : decode code 228 = .ok (.ifCond .eq 5, 3) := by decide +kernel
theorem dlw_231 : decode code 231 = .ok (.iconst 0, 1) := by decide +kernel
theorem dlw_232 : decode code 232 = .ok (.ireturn, 1) := by decide +kernel
theorem dlw_233 : decode code 233 = .ok (.goto (1063), 3) := by decide +kernel
theorem dlw_236 : decode code 236 = .ok (.aload_n 1, 1) := by decide +kernel
theorem dlw_237 : decode code 237 = .ok (.aload_n 0, 1) := by decide +kernel
theorem dlw_238 : decode code 238 = .ok (.iload 4, 2) := by decide +kernel
theorem dlw_240 : decode code 240 = .ok (.iconst 1, 1) := by decide +kernel
theorem dlw_241 : decode code 241 = .ok (.iadd, 1) := by decide +kernel
theorem dlw_242 : decode code 242 = .ok (.iaload, 1) := by decide +kernel
theorem dlw_243 : decode code 243 = .ok (.aload_n 3, 1) := by decide +kernel
theorem dlw_244 : decode code 244 = .ok (.invokestatic 87, 3) := by decide +kernel
theorem dlw_247 : decode code 247 = .ok (.istore 5, 2) := by decide +kernel
theorem dlw_249 : decode code 249 = .ok (.aload_n 2, 1) := by decide +kernel
theorem dlw_250 : decode code 250 = .ok (.aload_n 0, 1) := by decide +kernel
theorem dlw_251 : decode code 251 = .ok (.iload 4, 2) := by decide +kernel
theorem dlw_253 : decode code 253 = .ok (.iconst 1, 1) := by decide +kernel
theorem dlw_254 : decode code 254 = .ok (.iadd, 1) := by decide +kernel
theorem dlw_255 : decode code 255 = .ok (.iaload, 1) := by decide +kernel
theorem dlw_256 : decode code 256 = .ok (.invokevirtual 90, 3) := by decide +kernel
theorem dlw_259 : decode code 259 = .ok (.istore 6, 2) := by decide +kernel
theorem dlw_261 : decode code 261 = .ok (.aload_n 2, 1) := by decide +kernel
theorem dlw_262 : decode code 262 = .ok (.invokevirtual 83, 3) := by decide +kernel
theorem dlw_265 : decode code 265 = .ok (.iload 5, 2) := by decide +kernel
theorem dlw_267 : decode code 267 = .ok (.if_icmp .eq 5, 3) := by decide +kernel
theorem dlw_270 : decode code 270 = .ok (.iconst 0, 1) := by decide +kernel
theorem dlw_271 : decode code 271 = .ok (.ireturn, 1) := by decide +kernel
theorem dlw_272 : decode code 272 = .ok (.iload 5, 2) := by decide +kernel
theorem dlw_274 : decode code 274 = .ok (.ifCond .ne 15, 3) := by decide +kernel
theorem dlw_277 : decode code 277 = .ok (.aload_n 3, 1) := by decide +kernel
theorem dlw_278 : decode code 278 = .ok (.iconst 0, 1) := by decide +kernel
theorem dlw_279 : decode code 279 = .ok (.laload, 1) := by decide +kernel
theorem dlw_280 : decode code 280 = .ok (.iload 6, 2) := by decide +kernel
theorem dlw_282 : decode code 282 = .ok (.i2l, 1) := by decide +kernel
theorem dlw_283 : decode code 283 = .ok (.lcmp, 1) := by decide +kernel
theorem dlw_284 : decode code 284 = .ok (.ifCond .eq 5, 3) := by decide +kernel
theorem dlw_287 : decode code 287 = .ok (.iconst 0, 1) := by decide +kernel
theorem dlw_288 : decode code 288 = .ok (.ireturn, 1) := by decide +kernel
theorem dlw_289 : decode code 289 = .ok (.goto (1007), 3) := by decide +kernel
theorem dlw_292 : decode code 292 = .ok (.aload_n 1, 1) := by decide +kernel
theorem dlw_293 : decode code 293 = .ok (.invokevirtual 91, 3) := by decide +kernel
theorem dlw_296 : decode code 296 = .ok (.aload_n 2, 1) := by decide +kernel
theorem dlw_297 : decode code 297 = .ok (.invokevirtual 94, 3) := by decide +kernel
theorem dlw_300 : decode code 300 = .ok (.if_icmp .eq 996, 3) := by decide +kernel
set_option maxHeartbeats 2000000 in
theorem lc_add {p : Program} {l : Launch} {e : Env} {s : State} {m : MethodId} {below : List Frame} {meth : Method} {c : Code} {Q : State → Prop} {G : cG} {Gm : mG} {z : Nat × Nat} {a0 o b L : Nat} {cJ : ClassId} {xs : Nat → Int32} (C0 : lw_At p s m meth c b L xs) (hF : lF_ G Gm cJ z s) {S : CS} {D : CD} {M : MS} {f : Nat → Int64} {H : Heap} {locs : List Loc} {ce sl i : Nat} {x4 : Int32} (hI : lI_ G Gm o cJ s S D M f H) (hS : va_S (fun q : Nat => s.heap.size ≤ q) s.heap H locs) (hL : L ≤ 2560) (hi : i + 5 ≤ L) (ex4 : x4 = nI i) {ls : Array Slot} (hl : lv_has ls 7 [(0, .ref b), (1, .ref a0), (2, .ref (mO Gm)), (3, .ref o), (4, .int x4)]) {rm : Room} (hrm : rm.cells = 0 ∧ rm.slots = 0 ∧ rm.frames + 1 ≤ 12 ∧ rm.locals ≤ 400) (hop : lRes l G Gm S D z a0 o cJ f M yL_add wL_add yX7_add vX7_add rm [.ref a0, .int (xs (x4 + 1).toNatClampNeg), .int (xs (x4 + 2).toNatClampNeg), .int (xs (x4 + 3).toNatClampNeg), .int (xs (x4 + 4).toNatClampNeg), .ref o] [.ref (mO Gm), .int (xs (x4 + 1).toNatClampNeg), .int (xs (x4 + 2).toNatClampNeg), .int (xs (x4 + 3).toNatClampNeg), .int (xs (x4 + 4).toNatClampNeg)] (fun b => b.toInt64)) (hce : ce + 2 ≤ 601024) (hsl : sl + 21 ≤ 7293034)
    (kk : ∀ (S2 : CS) (D2 : CD) (M2 : MS) (f2 : Nat → Int64) (H1 : Heap) (locs1 : List Loc) (ls1 : Array Slot), jP_ S2 D2 z a0 M2 → lI_ G Gm o cJ s S2 D2 M2 f2 H1 → va_S (fun q : Nat => s.heap.size ≤ q) s.heap H1 locs1 → lv_has ls1 7 [(0, .ref b), (1, .ref a0), (2, .ref (mO Gm)), (3, .ref o), (4, .int x4)] → W p l e room_1 s m #[Value.ref b] below meth c H1 locs1 (ce + 2) (sl + 21) Q (F0 m 1296 ls1 [])) : W p l e room_1 s m #[Value.ref b] below meth c H locs ce sl Q (F0 m 144 ls []) := by
  obtain ⟨hx, hb, hr, hml, hown, hts, hX, hbl, hlocks, hgv⟩ := C0
  have hW : ∀ w ∈ WA, w.before #[Value.ref b] s = true := fun w h => hts w (tb_WA w h)
  have Fx : CallFix p m c code 7 s #[Value.ref b] WA RL := ⟨hx, hb, hml, hown, hW⟩
  have hbA : ¬ (fun q : Nat => s.heap.size ≤ q) b := Nat.not_le.mpr hbl
  obtain ⟨k, r9, P, M2, hWc, hM, h23, hP⟩ := hop
  refine lv_aload_n hx hb dlw_144 rfl (lv_at hl 1 rfl) ?_
  refine lv_aload_n hx hb dlw_145 rfl (lv_at hl 0 rfl) ?_
  refine lv_iload hx hb dlw_146 (lv_at hl 4 rfl) ?_
  refine lv_iconst (v := 1) hx hb dlw_148 (by decide) ?_
  refine lv_iadd hx hb dlw_149 ?_
  refine va_sld hx hb hX hbl hbA hS (l_in 1 ex4 (Nat.lt_of_lt_of_le (Nat.add_lt_add_left (by decide) i) hi) hL) dlw_150 ?_
  refine lv_aload_n hx hb dlw_151 rfl (lv_at hl 0 rfl) ?_
  refine lv_iload hx hb dlw_152 (lv_at hl 4 rfl) ?_
  refine lv_iconst (v := 2) hx hb dlw_154 (by decide) ?_
  refine lv_iadd hx hb dlw_155 ?_
  refine va_sld hx hb hX hbl hbA hS (l_in 2 ex4 (Nat.lt_of_lt_of_le (Nat.add_lt_add_left (by decide) i) hi) hL) dlw_156 ?_
  refine lv_aload_n hx hb dlw_157 rfl (lv_at hl 0 rfl) ?_
  refine lv_iload hx hb dlw_158 (lv_at hl 4 rfl) ?_
  refine lv_iconst (v := 3) hx hb dlw_160 (by decide) ?_
  refine lv_iadd hx hb dlw_161 ?_
  refine va_sld hx hb hX hbl hbA hS (l_in 3 ex4 (Nat.lt_of_lt_of_le (Nat.add_lt_add_left (by decide) i) hi) hL) dlw_162 ?_
  refine lv_aload_n hx hb dlw_163 rfl (lv_at hl 0 rfl) ?_
  refine lv_iload hx hb dlw_164 (lv_at hl 4 rfl) ?_
  refine lv_iconst (v := 4) hx hb dlw_166 (by decide) ?_
  refine lv_iadd hx hb dlw_167 ?_
  refine va_sld hx hb hX hbl hbA hS (l_in 4 ex4 (Nat.lt_of_lt_of_le (Nat.add_lt_add_left (by decide) i) hi) hL) dlw_168 ?_
  refine lv_aload_n hx hb dlw_169 rfl (lv_at hl 3 rfl) ?_
  refine l_wrap (av := [.ref a0, .int (xs (x4 + 1).toNatClampNeg), .int (xs (x4 + 2).toNatClampNeg), .int (xs (x4 + 3).toNatClampNeg), .int (xs (x4 + 4).toNatClampNeg), .ref o]) Fx hF hI hS hWc (fun S2 D2 v h => (hP _ S2 D2 v h).1) (vx_cwSW 6 hW (gSW wa_225 wa_226 wa_227 wa_142) rfl rfl rfl (by decide +kernel) ⟨Nat.le_of_ble_eq_true rfl, Nat.le_of_ble_eq_true rfl⟩) rfl hl.1 rfl (Nat.le_of_ble_eq_true rfl) ⟨hce, hsl⟩ dlw_170 (fun S2 D2 f2 H1 locs1 hPo hI hS => ?_)
  obtain ⟨hg9, hj9, hv9⟩ := hP _ _ _ _ hPo
  refine lv_istore (lv' := [(5, .int k), (0, .ref b), (1, .ref a0), (2, .ref (mO Gm)), (3, .ref o), (4, .int x4)]) hx hb dlw_173 hl (by decide) rfl (fun ls hl => ?_)
  refine lv_aload_n hx hb dlw_175 rfl (lv_at hl 3 rfl) ?_
  refine lv_aload_n hx hb dlw_176 rfl (lv_at hl 1 rfl) ?_
  refine lv_iload hx hb dlw_177 (lv_at hl 5 rfl) ?_
  refine lv_iconst (v := 1) hx hb dlw_179 (by decide) ?_
  refine lv_iadd hx hb dlw_180 ?_
  refine va_sld hx hb hX hbl hbA hS (l_in 1 ex4 (Nat.lt_of_lt_of_le (Nat.add_lt_add_left (by decide) i) hi) hL) dlw_181 ?_
  refine lv_aload_n hx hb dlw_182 rfl (lv_at hl 1 rfl) ?_
  refine lv_iload hx hb dlw_183 (lv_at hl 5 rfl) ?_
  refine lv_iconst (v := 2) hx hb dlw_185 (by decide) ?_
  refine lv_iadd hx hb dlw_186 ?_
  refine va_sld hx hb hX hbl hbA hS (l_in 2 ex4 (Nat.lt_of_lt_of_le (Nat.add_lt_add_left (by decide) i) hi) hL) dlw_187 ?_
  refine lv_aload_n hx hb dlw_188 rfl (lv_at hl 1 rfl) ?_
  refine lv_iload hx hb dlw_189 (lv_at hl 5 rfl) ?_
  refine lv_iconst (v := 3) hx hb dlw_191 (by decide) ?_
  refine lv_iadd hx hb dlw_192 ?_
  refine va_sld hx hb hX hbl hbA hS (l_in 3 ex4 (Nat.lt_of_lt_of_le (Nat.add_lt_add_left (by decide) i) hi) hL) dlw_193 ?_
  refine lv_aload_n hx hb dlw_194 rfl (lv_at hl 1 rfl) ?_
  refine lv_iload hx hb dlw_195 (lv_at hl 5 rfl) ?_
  refine lv_iconst (v := 4) hx hb dlw_197 (by decide) ?_
  refine lv_iadd hx hb dlw_198 ?_
  refine va_sld hx hb hX hbl hbA hS (l_in 4 ex4 (Nat.lt_of_lt_of_le (Nat.add_lt_add_left (by decide) i) hi) hL) dlw_199 ?_
  refine l_mod (As := [.int (xs (x4 + 1).toNatClampNeg), .int (xs (x4 + 2).toNatClampNeg), .int (xs (x4 + 3).toNatClampNeg), .int (xs (x4 + 4).toNatClampNeg)]) Fx hF hI hS hM (cwV 4 hW (gVW wa_228 wa_229 wa_230 (hWMA _ wm_7) (hWMA _ wm_152) hWMA) rfl hrm.1 hrm.2.1 (by decide +kernel) ⟨hrm.2.2.1, (Nat.le_trans (Nat.add_le_add_left hrm.2.2.2 _) (Nat.le_of_ble_eq_true rfl))⟩) rfl hl.1 rfl (Nat.le_of_ble_eq_true rfl) ⟨hce, hsl⟩ dlw_200 (fun H2 locs2 hI hS => ?_)
  refine lv_istore (lv' := [(6, .int r9), (5, .int k), (0, .ref b), (1, .ref a0), (2, .ref (mO Gm)), (3, .ref o), (4, .int x4)]) hx hb dlw_203 hl (by decide) rfl (fun ls hl => ?_)
  refine lv_aload_n hx hb dlw_205 rfl (lv_at hl 4 rfl) ?_
  refine l_mod (As := []) Fx hF hI hS (c_thrown l Gm 0 M2 (M2.1 23) rfl) (cwV 0 hW (gVW wa_231 wa_232 wa_233 (hWMA _ wm_7) (hWMA _ wm_0) hWMA) rfl rfl rfl (by decide +kernel) ⟨Nat.le_of_ble_eq_true rfl, Nat.le_of_ble_eq_true rfl⟩) rfl hl.1 rfl (Nat.le_of_ble_eq_true rfl) ⟨hce, hsl⟩ dlw_206 (fun H3 locs3 hI hS => ?_)
  refine lv_iload hx hb dlw_209 (lv_at hl 1 rfl) ?_
  refine lv_icmp_eq (tgt := 216) hx hb dlw_211 (by decide) (fun _ => ?_) (fun cq => absurd h23 cq)
  refine lv_iload hx hb dlw_216 (lv_at hl 1 rfl) ?_
  have fin : W p l e room_1 s m #[Value.ref b] below meth c H3 locs3 (ce + 2) (sl + 21) Q (F0 m 233 ls []) := by
    refine lv_goto (tgt := 1296) hx hb dlw_233 (by decide) ?_
    exact kk S2 D2 M2 f2 H3 locs3 ls hj9 hI hS (lv_sub hl [2, 3, 4, 5, 6] rfl)
  refine lv_if_ne (tgt := 233) hx hb dlw_218 (by decide) (fun _ => fin) (fun cn => ?_)
  have hk0 : k = 0 := cn
  refine lv_aload_n hx hb dlw_221 rfl (lv_at hl 5 rfl) ?_
  refine lv_iconst (v := 0) hx hb dlw_222 (by decide) ?_
  refine va_lald hx hb hF.2.2.2.1 hI.2.2.1 0 0 (n := 1) rfl rfl vp_in01 dlw_223 ?_
  refine lv_iload hx hb dlw_224 (lv_at hl 0 rfl) ?_
  refine lv_i2l (v := r9.toInt64) hx hb dlw_226 rfl ?_
  refine W.lcmp hx hb dlw_227 ?_
  refine lv_if_eq (tgt := 233) hx hb dlw_228 (by decide) (fun _ => fin) (fun cq => absurd ?_ cq)
  rw [show f2 ((0 : Int32).toNatClampNeg) = r9.toInt64 from (hv9 hk0)]
  exact lg_cmp_self _
set_option maxHeartbeats 2000000 in
theorem lc_remove {p : Program} {l : Launch} {e : Env} {s : State} {m : MethodId} {below : List Frame} {meth : Method} {c : Code} {Q : State → Prop} {G : cG} {Gm : mG} {z : Nat × Nat} {a0 o b L : Nat} {cJ : ClassId} {xs : Nat → Int32} (C0 : lw_At p s m meth c b L xs) (hF : lF_ G Gm cJ z s) {S : CS} {D : CD} {M : MS} {f : Nat → Int64} {H : Heap} {locs : List Loc} {ce sl i : Nat} {x4 : Int32} (hI : lI_ G Gm o cJ s S D M f H) (hS : va_S (fun q : Nat => s.heap.size ≤ q) s.heap H locs) (hL : L ≤ 2560) (hi : i + 5 ≤ L) (ex4 : x4 = nI i) {ls : Array Slot} (hl : lv_has ls 7 [(0, .ref b), (1, .ref a0), (2, .ref (mO Gm)), (3, .ref o), (4, .int x4)]) {rm : Room} (hrm : rm.cells = 0 ∧ rm.slots = 0 ∧ rm.frames + 1 ≤ 12 ∧ rm.locals ≤ 400) (hop : lRes l G Gm S D z a0 o cJ f M yL_remove wL_remove yX7_remove vX7_remove rm [.ref a0, .int (xs (x4 + 1).toNatClampNeg), .ref o] [.ref (mO Gm), .int (xs (x4 + 1).toNatClampNeg)] (fun b => b.toInt64)) (hce : ce + 2 ≤ 601024) (hsl : sl + 21 ≤ 7293034)
    (kk : ∀ (S2 : CS) (D2 : CD) (M2 : MS) (f2 : Nat → Int64) (H1 : Heap) (locs1 : List Loc) (ls1 : Array Slot), jP_ S2 D2 z a0 M2 → lI_ G Gm o cJ s S2 D2 M2 f2 H1 → va_S (fun q : Nat => s.heap.size ≤ q) s.heap H1 locs1 → lv_has ls1 7 [(0, .ref b), (1, .ref a0), (2, .ref (mO Gm)), (3, .ref o), (4, .int x4)] → W p l e room_1 s m #[Value.ref b] below meth c H1 locs1 (ce + 2) (sl + 21) Q (F0 m 1296 ls1 [])) : W p l e room_1 s m #[Value.ref b] below meth c H locs ce sl Q (F0 m 236 ls []) := by
  obtain ⟨hx, hb, hr, hml, hown, hts, hX, hbl, hlocks, hgv⟩ := C0
  have hW : ∀ w ∈ WA, w.before #[Value.ref b] s = true := fun w h => hts w (tb_WA w h)
  have Fx : CallFix p m c code 7 s #[Value.ref b] WA RL := ⟨hx, hb, hml, hown, hW⟩
  have hbA : ¬ (fun q : Nat => s.heap.size ≤ q) b := Nat.not_le.mpr hbl
  obtain ⟨k, r9, P, M2, hWc, hM, h23, hP⟩ := hop
  refine lv_aload_n hx hb dlw_236 rfl (lv_at hl 1 rfl) ?_
  refine lv_aload_n hx hb dlw_237 rfl (lv_at hl 0 rfl) ?_
  refine lv_iload hx hb dlw_238 (lv_at hl 4 rfl) ?_
  refine lv_iconst (v := 1) hx hb dlw_240 (by decide) ?_
  refine lv_iadd hx hb dlw_241 ?_
  refine va_sld hx hb hX hbl hbA hS (l_in 1 ex4 (Nat.lt_of_lt_of_le (Nat.add_lt_add_left (by decide) i) hi) hL) dlw_242 ?_
  refine lv_aload_n hx hb dlw_243 rfl (lv_at hl 3 rfl) ?_
  refine l_wrap (av := [.ref a0, .int (xs (x4 + 1).toNatClampNeg), .ref o]) Fx hF hI hS hWc (fun S2 D2 v h => (hP _ S2 D2 v h).1) (vx_cwSW 3 hW (gSW wa_234 wa_235 wa_227 wa_148) rfl rfl rfl (by decide +kernel) ⟨Nat.le_of_ble_eq_true rfl, Nat.le_of_ble_eq_true rfl⟩) rfl hl.1 rfl (Nat.le_of_ble_eq_true rfl) ⟨hce, hsl⟩ dlw_244 (fun S2 D2 f2 H1 locs1 hPo hI hS => ?_)
  obtain ⟨hg9, hj9, hv9⟩ := hP _ _ _ _ hPo
  refine lv_istore (lv' := [(5, .int k), (0, .ref b), (1, .ref a0), (2, .ref (mO Gm)), (3, .ref o), (4, .int x4)]) hx hb dlw_247 hl (by decide) rfl (fun ls hl => ?_)
  refine lv_aload_n hx hb dlw_249 rfl (lv_at hl 3 rfl) ?_
  refine lv_aload_n hx hb dlw_250 rfl (lv_at hl 1 rfl) ?_
  refine lv_iload hx hb dlw_251 (lv_at hl 5 rfl) ?_
  refine lv_iconst (v := 1) hx hb dlw_253 (by decide) ?_
  refine lv_iadd hx hb dlw_254 ?_
  refine va_sld hx hb hX hbl hbA hS (l_in 1 ex4 (Nat.lt_of_lt_of_le (Nat.add_lt_add_left (by decide) i) hi) hL) dlw_255 ?_
  refine l_mod (As := [.int (xs (x4 + 1).toNatClampNeg)]) Fx hF hI hS hM (cwV 1 hW (gVW wa_236 wa_237 wa_238 (hWMA _ wm_7) (hWMA _ wm_165) hWMA) rfl hrm.1 hrm.2.1 (by decide +kernel) ⟨hrm.2.2.1, (Nat.le_trans (Nat.add_le_add_left hrm.2.2.2 _) (Nat.le_of_ble_eq_true rfl))⟩) rfl hl.1 rfl (Nat.le_of_ble_eq_true rfl) ⟨hce, hsl⟩ dlw_256 (fun H2 locs2 hI hS => ?_)
  refine lv_istore (lv' := [(6, .int r9), (5, .int k), (0, .ref b), (1, .ref a0), (2, .ref (mO Gm)), (3, .ref o), (4, .int x4)]) hx hb dlw_259 hl (by decide) rfl (fun ls hl => ?_)
  refine lv_aload_n hx hb dlw_261 rfl (lv_at hl 4 rfl) ?_
  refine l_mod (As := []) Fx hF hI hS (c_thrown l Gm 0 M2 (M2.1 23) rfl) (cwV 0 hW (gVW wa_231 wa_232 wa_233 (hWMA _ wm_7) (hWMA _ wm_0) hWMA) rfl rfl rfl (by decide +kernel) ⟨Nat.le_of_ble_eq_true rfl, Nat.le_of_ble_eq_true rfl⟩) rfl hl.1 rfl (Nat.le_of_ble_eq_true rfl) ⟨hce, hsl⟩ dlw_262 (fun H3 locs3 hI hS => ?_)
  refine lv_iload hx hb dlw_265 (lv_at hl 1 rfl) ?_
  refine lv_icmp_eq (tgt := 272) hx hb dlw_267 (by decide) (fun _ => ?_) (fun cq => absurd h23 cq)
  refine lv_iload hx hb dlw_272 (lv_at hl 1 rfl) ?_
  have fin : W p l e room_1 s m #[Value.ref b] below meth c H3 locs3 (ce + 2) (sl + 21) Q (F0 m 289 ls []) := by
    refine lv_goto (tgt := 1296) hx hb dlw_289 (by decide) ?_
    exact kk S2 D2 M2 f2 H3 locs3 ls hj9 hI hS (lv_sub hl [2, 3, 4, 5, 6] rfl)
  refine lv_if_ne (tgt := 289) hx hb dlw_274 (by decide) (fun _ => fin) (fun cn => ?_)
  have hk0 : k = 0 := cn
  refine lv_aload_n hx hb dlw_277 rfl (lv_at hl 5 rfl) ?_
  refine lv_iconst (v := 0) hx hb dlw_278 (by decide) ?_
  refine va_lald hx hb hF.2.2.2.1 hI.2.2.1 0 0 (n := 1) rfl rfl vp_in01 dlw_279 ?_
  refine lv_iload hx hb dlw_280 (lv_at hl 0 rfl) ?_
  refine lv_i2l (v := r9.toInt64) hx hb dlw_282 rfl ?_
  refine W.lcmp hx hb dlw_283 ?_
  refine lv_if_eq (tgt := 289) hx hb dlw_284 (by decide) (fun _ => fin) (fun cq => absurd ?_ cq)
  rw [show f2 ((0 : Int32).toNatClampNeg) = r9.toInt64 from (hv9 hk0)]
  exact lg_cmp_self _
set_option maxHeartbeats 1000000 in
theorem lc_segments {p : Program} {l : Launch} {e : Env} {s : State} {m : MethodId} {below : List Frame} {meth : Method} {c : Code} {Q : State → Prop} {G : cG} {Gm : mG} {z : Nat × Nat} {a0 o b L : Nat} {cJ : ClassId} {xs : Nat → Int32} (C0 : lw_At p s m meth c b L xs) (hF : lF_ G Gm cJ z s) {S : CS} {D : CD} {M : MS} {f : Nat → Int64} {H : Heap} {locs : List Loc} {ce sl i : Nat} {x4 : Int32} (hI : lI_ G Gm o cJ s S D M f H) (hS : va_S (fun q : Nat => s.heap.size ≤ q) s.heap H locs) (hL : L ≤ 2560) (hi : i + 5 ≤ L) (ex4 : x4 = nI i) {ls : Array Slot} (hl : lv_has ls 7 [(0, .ref b), (1, .ref a0), (2, .ref (mO Gm)), (3, .ref o), (4, .int x4)]) (hm : a0 ∈ S.1) (hk : S.2.1 a0 = 6) {rm rm2 : Room} (hrm : rm.cells = 0 ∧ rm.slots = 0 ∧ rm.frames + 1 ≤ 12 ∧ rm.locals ≤ 400 ∧ rm2.cells = 0 ∧ rm2.slots = 0 ∧ rm2.frames + 1 ≤ 12 ∧ rm2.locals ≤ 400) (hop : ∃ (r : Int32) (M2 : MS), cMI l yX6_segments vX6_segments rm G S [.ref a0] D D r ∧ mMI l yX7_segments vX7_segments rm2 Gm [.ref (mO Gm)] M M2 r ∧ jP_ S D z a0 M2) (hce : ce ≤ 601024) (hsl : sl ≤ 7293034)
    (kk : ∀ (M2 : MS) (H1 : Heap) (locs1 : List Loc), jP_ S D z a0 M2 → lI_ G Gm o cJ s S D M2 f H1 → va_S (fun q : Nat => s.heap.size ≤ q) s.heap H1 locs1 → W p l e room_1 s m #[Value.ref b] below meth c H1 locs1 ce sl Q (F0 m 1296 ls [])) : W p l e room_1 s m #[Value.ref b] below meth c H locs ce sl Q (F0 m 292 ls []) := by
  obtain ⟨hx, hb, hr, hml, hown, hts, hX, hbl, hlocks, hgv⟩ := C0
  have hW : ∀ w ∈ WA, w.before #[Value.ref b] s = true := fun w h => hts w (tb_WA w h)
  have Fx : CallFix p m c code 7 s #[Value.ref b] WA RL := ⟨hx, hb, hml, hown, hW⟩
  have hbA : ¬ (fun q : Nat => s.heap.size ≤ q) b := Nat.not_le.mpr hbl
  obtain ⟨r, M2, hC, hM, hj⟩ := hop
  refine lv_aload_n hx hb dlw_292 rfl (lv_at hl 1 rfl) ?_
  refine l_cls (As := []) Fx hF hI hS hm hk hC (cwV 0 hW (gVW wa_239 wa_240 wa_241 (hWCA _ wc_66) (hWCA _ wc_2) hWCA) rfl hrm.1 hrm.2.1 (by decide +kernel) ⟨hrm.2.2.1, (Nat.le_trans (Nat.add_le_add_left hrm.2.2.2.1 _) (Nat.le_of_ble_eq_true rfl))⟩) rfl hl.1 rfl (Nat.le_of_ble_eq_true rfl) ⟨hce, hsl⟩ dlw_293 (fun H1 locs1 hI hS => ?_)
  refine lv_aload_n hx hb dlw_296 rfl (lv_at hl 2 rfl) ?_
  refine l_mod (As := []) Fx hF hI hS hM (cwV 0 hW (gVW wa_242 wa_243 wa_244 (hWMA _ wm_7) (hWMA _ wm_169) hWMA) rfl hrm.2.2.2.2.1 hrm.2.2.2.2.2.1 (by decide +kernel) ⟨hrm.2.2.2.2.2.2.1, (Nat.le_trans (Nat.add_le_add_left hrm.2.2.2.2.2.2.2 _) (Nat.le_of_ble_eq_true rfl))⟩) rfl hl.1 rfl (Nat.le_of_ble_eq_true rfl) ⟨hce, hsl⟩ dlw_297 (fun H2 locs2 hI hS => ?_)
  refine lv_icmp_eq (tgt := 1296) hx hb dlw_300 (by decide) (fun _ => ?_) (fun cq => absurd rfl cq)
  exact kk M2 H2 locs2 hj hI hS
