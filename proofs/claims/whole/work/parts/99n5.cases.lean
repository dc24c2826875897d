/-! The law, case by case. -/
theorem dlw_1104 : decode code 1104 = .ok (.aload_n 1, 1) := by decide +kernel
theorem dlw_1105 : decode code 1105 = .ok (.aload_n 0, 1) := by decide +kernel
theorem dlw_1106 : decode code 1106 = .ok (.iload 4, 2) := by decide +kernel
theorem dlw_1108 : decode code 1108 = .ok (.iconst 1, 1) := by decide +kernel
theorem dlw_1109 : decode code 1109 = .ok (.iadd, 1) := by decide +kernel
theorem dlw_1110 : decode code 1110 = .ok (.iaload, 1) := by decide +kernel
theorem dlw_1111 : decode code 1111 = .ok (.aload_n 0, 1) := by decide +kernel
theorem dlw_1112 : decode code 1112 = .ok (.iload 4, 2) := by decide +kernel
theorem dlw_1114 : decode code 1114 = .ok (.iconst 2, 1) := by decide +kernel
theorem dlw_1115 : decode code 1115 = .ok (.iadd, 1) := by decide +kernel
theorem dlw_1116 : decode code 1116 = .ok (.iaload, 1) := by decide +kernel
theorem dlw_1117 : decode code 1117 = .ok (.aload_n 3, 1) := by decide +kernel
theorem dlw_1118 : decode code 1118 = .ok (.invokestatic 151, 3) := by decide +kernel
theorem dlw_1121 : decode code 1121 = .ok (.istore 5, 2) := by decide +kernel
theorem dlw_1123 : decode code 1123 = .ok (.aload_n 2, 1) := by decide +kernel
theorem dlw_1124 : decode code 1124 = .ok (.aload_n 0, 1) := by decide +kernel
theorem dlw_1125 : decode code 1125 = .ok (.iload 4, 2) := by decide +kernel
theorem dlw_1127 : decode code 1127 = .ok (.iconst 1, 1) := by decide +kernel
theorem dlw_1128 : decode code 1128 = .ok (.iadd, 1) := by decide +kernel
theorem dlw_1129 : decode code 1129 = .ok (.iaload, 1) := by decide +kernel
theorem dlw_1130 : decode code 1130 = .ok (.aload_n 0, 1) := by decide +kernel
theorem dlw_1131 : decode code 1131 = .ok (.iload 4, 2) := by decide +kernel
theorem dlw_1133 : decode code 1133 = .ok (.iconst 2, 1) := by decide +kernel
theorem dlw_1134 : decode code 1134 = .ok (.iadd, 1) := by decide +kernel
theorem dlw_1135 : decode code 1135 = .ok (.iaload, 1) := by decide +kernel
theorem dlw_1136 : decode code 1136 = .ok (.invokevirtual 153, 3) := by decide +kernel
theorem dlw_1139 : decode code 1139 = .ok (.istore 6, 2) := by decide +kernel
theorem dlw_1141 : decode code 1141 = .ok (.aload_n 2, 1) := by decide +kernel
theorem dlw_1142 : decode code 1142 = .ok (.invokevirtual 83, 3) := by decide +kernel
theorem dlw_1145 : decode code 1145 = .ok (.iload 5, 2) := by decide +kernel
theorem dlw_1147 : decode code 1147 = .ok (.if_icmp .eq 5, 3) := by decide +kernel
theorem dlw_1150 : decode code 1150 = .ok (.iconst 0, 1) := by decide +kernel
theorem dlw_1151 : decode code 1151 = .ok (.ireturn, 1) := by decide +kernel
theorem dlw_1152 : decode code 1152 = .ok (.iload 5, 2) := by decide +kernel
theorem dlw_1154 : decode code 1154 = .ok (.ifCond .ne 15, 3) := by decide +kernel
theorem dlw_1157 : decode code 1157 = .ok (.aload_n 3, 1) := by decide +kernel
theorem dlw_1158 : decode code 1158 = .ok (.iconst 0, 1) := by decide +kernel
theorem dlw_1159 : decode code 1159 = .ok (.laload, 1) := by decide +kernel
theorem dlw_1160 : decode code 1160 = .ok (.iload 6, 2) := by decide +kernel
theorem dlw_1162 : decode code 1162 = .ok (.i2l, 1) := by decide +kernel
theorem dlw_1163 : decode code 1163 = .ok (.lcmp, 1) := by decide +kernel
theorem dlw_1164 : decode code 1164 = .ok (.ifCond .eq 5, 3) := by decide +kernel
theorem dlw_1167 : decode code 1167 = .ok (.iconst 0, 1) := by decide +kernel
theorem dlw_1168 : decode code 1168 = .ok (.ireturn, 1) := by decide +kernel
theorem dlw_1169 : decode code 1169 = .ok (.goto (127), 3) := by decide +kernel
theorem dlw_1172 : decode code 1172 = .ok (.aload_n 1, 1) := by decide +kernel
theorem dlw_1173 : decode code 1173 = .ok (.aload_n 0, 1) := by decide +kernel
theorem dlw_1174 : decode code 1174 = .ok (.iload 4, 2) := by decide +kernel
theorem dlw_1176 : decode code 1176 = .ok (.iconst 1, 1) := by decide +kernel
theorem dlw_1177 : decode code 1177 = .ok (.iadd, 1) := by decide +kernel
theorem dlw_1178 : decode code 1178 = .ok (.iaload, 1) := by decide +kernel
theorem dlw_1179 : decode code 1179 = .ok (.aload_n 3, 1) := by decide +kernel
theorem dlw_1180 : decode code 1180 = .ok (.invokestatic 154, 3) := by decide +kernel
theorem dlw_1183 : decode code 1183 = .ok (.istore 5, 2) := by decide +kernel
theorem dlw_1185 : decode code 1185 = .ok (.aload_n 2, 1) := by decide +kernel
theorem dlw_1186 : decode code 1186 = .ok (.aload_n 0, 1) := by decide +kernel
theorem dlw_1187 : decode code 1187 = .ok (.iload 4, 2) := by decide +kernel
theorem dlw_1189 : decode code 1189 = .ok (.iconst 1, 1) := by decide +kernel
theorem dlw_1190 : decode code 1190 = .ok (.iadd, 1) := by decide +kernel
theorem dlw_1191 : decode code 1191 = .ok (.iaload, 1) := by decide +kernel
theorem dlw_1192 : decode code 1192 = .ok (.invokevirtual 156, 3) := by decide +kernel
theorem dlw_1195 : decode code 1195 = .ok (.istore 6, 2) := by decide +kernel
theorem dlw_1197 : decode code 1197 = .ok (.aload_n 2, 1) := by decide +kernel
theorem dlw_1198 : decode code 1198 = .ok (.invokevirtual 83, 3) := by decide +kernel
theorem dlw_1201 : decode code 1201 = .ok (.iload 5, 2) := by decide +kernel
theorem dlw_1203 : decode code 1203 = .ok (.if_icmp .eq 5, 3) := by decide +kernel
theorem dlw_1206 : decode code 1206 = .ok (.iconst 0, 1) := by decide +kernel
theorem dlw_1207 : decode code 1207 = .ok (.ireturn, 1) := by decide +kernel
theorem dlw_1208 : decode code 1208 = .ok (.iload 5, 2) := by decide +kernel
theorem dlw_1210 : decode code 1210 = .ok (.ifCond .ne 15, 3) := by decide +kernel
theorem dlw_1213 : decode code 1213 = .ok (.aload_n 3, 1) := by decide +kernel
theorem dlw_1214 : decode code 1214 = .ok (.iconst 0, 1) := by decide +kernel
theorem dlw_1215 : decode code 1215 = .ok (.laload, 1) := by decide +kernel
theorem dlw_1216 : decode code 1216 = .ok (.iload 6, 2) := by decide +kernel
theorem dlw_1218 : decode code 1218 = .ok (.i2l, 1) := by decide +kernel
theorem dlw_1219 : decode code 1219 = .ok (.lcmp, 1) := by decide +kernel
theorem dlw_1220 : decode code 1220 = .ok (.ifCond .eq 5, 3) := by decide +kernel
theorem dlw_1223 : decode code 1223 = .ok (.iconst 0, 1) := by decide +kernel
theorem dlw_1224 : decode code 1224 = .ok (.ireturn, 1) := by decide +kernel
theorem dlw_1225 : decode code 1225 = .ok (.goto (71), 3) := by decide +kernel
theorem dlw_1228 : decode code 1228 = .ok (.aload_n 1, 1) := by decide +kernel
theorem dlw_1229 : decode code 1229 = .ok (.aload_n 0, 1) := by decide +kernel
theorem dlw_1230 : decode code 1230 = .ok (.iload 4, 2) := by decide +kernel
theorem dlw_1232 : decode code 1232 = .ok (.iconst 1, 1) := by decide +kernel
theorem dlw_1233 : decode code 1233 = .ok (.iadd, 1) := by decide +kernel
theorem dlw_1234 : decode code 1234 = .ok (.iaload, 1) := by decide +kernel
theorem dlw_1235 : decode code 1235 = .ok (.aload_n 0, 1) := by decide +kernel
theorem dlw_1236 : decode code 1236 = .ok (.iload 4, 2) := by decide +kernel
theorem dlw_1238 : decode code 1238 = .ok (.iconst 2, 1) := by decide +kernel
theorem dlw_1239 : decode code 1239 = .ok (.iadd, 1) := by decide +kernel
theorem dlw_1240 : decode code 1240 = .ok (.iaload, 1) := by decide +kernel
theorem dlw_1241 : decode code 1241 = .ok (.aload_n 3, 1) := by decide +kernel
theorem dlw_1242 : decode code 1242 = .ok (.invokestatic 157, 3) := by decide +kernel
theorem dlw_1245 : decode code 1245 = .ok (.istore 5, 2) := by decide +kernel
theorem dlw_1247 : decode code 1247 = .ok (.aload_n 2, 1) := by decide +kernel
theorem dlw_1248 : decode code 1248 = .ok (.aload_n 0, 1) := by decide +kernel
theorem dlw_1249 : decode code 1249 = .ok (.iload 4, 2) := by decide +kernel
theorem dlw_1251 : decode code 1251 = .ok (.iconst 1, 1) := by decide +kernel
theorem dlw_1252 : decode code 1252 = .ok (.iadd, 1) := by decide +kernel
theorem dlw_1253 : decode code 1253 = .ok (.iaload, 1) := by decide +kernel
theorem dlw_1254 : decode code 1254 = .ok (.aload_n 0, 1) := by decide +kernel
theorem dlw_1255 : decode code 1255 = .ok (.iload 4, 2) := by decide +kernel
theorem dlw_1257 : decode code 1257 = .ok (.iconst 2, 1) := by decide +kernel
theorem dlw_1258 : decode code 1258 = .ok (.iadd, 1) := by decide +kernel
theorem dlw_1259 : decode code 1259 = .ok (.iaload, 1) := by decide +kernel
theorem dlw_1260 : decode code 1260 = .ok (.invokevirtual 159, 3) := by decide +kernel
theorem dlw_1263 : decode code 1263 = .ok (.istore 6, 2) := by decide +kernel
theorem dlw_1265 : decode code 1265 = .ok (.aload_n 2, 1) := by decide +kernel
theorem dlw_1266 : decode code 1266 = .ok (.invokevirtual 83, 3) := by decide +kernel
theorem dlw_1269 : decode code 1269 = .ok (.iload 5, 2) := by decide +kernel
theorem dlw_1271 : decode code 1271 = .ok (.if_icmp .eq 5, 3) := by decide +kernel
theorem dlw_1274 : decode code 1274 = .ok (.iconst 0, 1) := by decide +kernel
theorem dlw_1275 : decode code 1275 = .ok (.ireturn, 1) := by decide +kernel
theorem dlw_1276 : decode code 1276 = .ok (.iload 5, 2) := by decide +kernel
theorem dlw_1278 : decode code 1278 = .ok (.ifCond .ne 15, 3) := by decide +kernel
theorem dlw_1281 : decode code 1281 = .ok (.aload_n 3, 1) := by decide +kernel
theorem dlw_1282 : decode code 1282 = .ok (.iconst 0, 1) := by decide +kernel
theorem dlw_1283 : decode code 1283 = .ok (.laload, 1) := by decide +kernel
theorem dlw_1284 : decode code 1284 = .ok (.iload 6, 2) := by decide +kernel
theorem dlw_1286 : decode code 1286 = .ok (.i2l, 1) := by decide +kernel
theorem dlw_1287 : decode code 1287 = .ok (.lcmp, 1) := by decide +kernel
theorem dlw_1288 : decode code 1288 = .ok (.ifCond .eq 5, 3) := by decide +kernel
theorem dlw_1291 : decode code 1291 = .ok (.iconst 0, 1) := by decide +kernel
theorem dlw_1292 : decode code 1292 = .ok (.ireturn, 1) := by decide +kernel
theorem dlw_1293 : decode code 1293 = .ok (.goto (3), 3) := by decide +kernel
set_option maxHeartbeats 2000000 in
theorem lc_faceAt {p : Program} {l : Launch} {e : Env} {s : State} {m : MethodId} {below : List Frame} {meth : Method} {c : Code} {Q : State → Prop} {G : cG} {Gm : mG} {z : Nat × Nat} {a0 o b L : Nat} {cJ : ClassId} {xs : Nat → Int32} (C0 : lw_At p s m meth c b L xs) (hF : lF_ G Gm cJ z s) {S : CS} {D : CD} {M : MS} {f : Nat → Int64} {H : Heap} {locs : List Loc} {ce sl i : Nat} {x4 : Int32} (hI : lI_ G Gm o cJ s S D M f H) (hS : va_S (fun q : Nat => s.heap.size ≤ q) s.heap H locs) (hL : L ≤ 2560) (hi : i + 5 ≤ L) (ex4 : x4 = nI i) {ls : Array Slot} (hl : lv_has ls 7 [(0, .ref b), (1, .ref a0), (2, .ref (mO Gm)), (3, .ref o), (4, .int x4)]) {rm : Room} (hrm : rm.cells = 0 ∧ rm.slots = 0 ∧ rm.frames + 1 ≤ 12 ∧ rm.locals ≤ 400) (hop : lRes l G Gm S D z a0 o cJ f M yL_faceAt wL_faceAt yX7_faceAt vX7_faceAt rm [.ref a0, .int (xs (x4 + 1).toNatClampNeg), .int (xs (x4 + 2).toNatClampNeg), .ref o] [.ref (mO Gm), .int (xs (x4 + 1).toNatClampNeg), .int (xs (x4 + 2).toNatClampNeg)] (fun b => b.toInt64)) (hce : ce + 2 ≤ 601024) (hsl : sl + 21 ≤ 7293034)
    (kk : ∀ (S2 : CS) (D2 : CD) (M2 : MS) (f2 : Nat → Int64) (H1 : Heap) (locs1 : List Loc) (ls1 : Array Slot), jP_ S2 D2 z a0 M2 → lI_ G Gm o cJ s S2 D2 M2 f2 H1 → va_S (fun q : Nat => s.heap.size ≤ q) s.heap H1 locs1 → lv_has ls1 7 [(0, .ref b), (1, .ref a0), (2, .ref (mO Gm)), (3, .ref o), (4, .int x4)] → W p l e room_1 s m #[Value.ref b] below meth c H1 locs1 (ce + 2) (sl + 21) Q (F0 m 1296 ls1 [])) : W p l e room_1 s m #[Value.ref b] below meth c H locs ce sl Q (F0 m 1104 ls []) := by
  obtain ⟨hx, hb, hr, hml, hown, hts, hX, hbl, hlocks, hgv⟩ := C0
  have hW : ∀ w ∈ WA, w.before #[Value.ref b] s = true := fun w h => hts w (tb_WA w h)
  have Fx : CallFix p m c code 7 s #[Value.ref b] WA RL := ⟨hx, hb, hml, hown, hW⟩
  have hbA : ¬ (fun q : Nat => s.heap.size ≤ q) b := Nat.not_le.mpr hbl
  obtain ⟨k, r9, P, M2, hWc, hM, h23, hP⟩ := hop
  refine lv_aload_n hx hb dlw_1104 rfl (lv_at hl 1 rfl) ?_
  refine lv_aload_n hx hb dlw_1105 rfl (lv_at hl 0 rfl) ?_
  refine lv_iload hx hb dlw_1106 (lv_at hl 4 rfl) ?_
  refine lv_iconst (v := 1) hx hb dlw_1108 (by decide) ?_
  refine lv_iadd hx hb dlw_1109 ?_
  refine va_sld hx hb hX hbl hbA hS (l_in 1 ex4 (Nat.lt_of_lt_of_le (Nat.add_lt_add_left (by decide) i) hi) hL) dlw_1110 ?_
  refine lv_aload_n hx hb dlw_1111 rfl (lv_at hl 0 rfl) ?_
  refine lv_iload hx hb dlw_1112 (lv_at hl 4 rfl) ?_
  refine lv_iconst (v := 2) hx hb dlw_1114 (by decide) ?_
  refine lv_iadd hx hb dlw_1115 ?_
  refine va_sld hx hb hX hbl hbA hS (l_in 2 ex4 (Nat.lt_of_lt_of_le (Nat.add_lt_add_left (by decide) i) hi) hL) dlw_1116 ?_
  refine lv_aload_n hx hb dlw_1117 rfl (lv_at hl 3 rfl) ?_
  refine l_wrap (av := [.ref a0, .int (xs (x4 + 1).toNatClampNeg), .int (xs (x4 + 2).toNatClampNeg), .ref o]) Fx hF hI hS hWc (fun S2 D2 v h => (hP _ S2 D2 v h).1) (vx_cwSW 4 hW (gSW wa_334 wa_335 wa_227 wa_205) rfl rfl rfl (by decide +kernel) ⟨Nat.le_of_ble_eq_true rfl, Nat.le_of_ble_eq_true rfl⟩) rfl hl.1 rfl (Nat.le_of_ble_eq_true rfl) ⟨hce, hsl⟩ dlw_1118 (fun S2 D2 f2 H1 locs1 hPo hI hS => ?_)
  obtain ⟨hg9, hj9, hv9⟩ := hP _ _ _ _ hPo
  refine lv_istore (lv' := [(5, .int k), (0, .ref b), (1, .ref a0), (2, .ref (mO Gm)), (3, .ref o), (4, .int x4)]) hx hb dlw_1121 hl (by decide) rfl (fun ls hl => ?_)
  refine lv_aload_n hx hb dlw_1123 rfl (lv_at hl 3 rfl) ?_
  refine lv_aload_n hx hb dlw_1124 rfl (lv_at hl 1 rfl) ?_
  refine lv_iload hx hb dlw_1125 (lv_at hl 5 rfl) ?_
  refine lv_iconst (v := 1) hx hb dlw_1127 (by decide) ?_
  refine lv_iadd hx hb dlw_1128 ?_
  refine va_sld hx hb hX hbl hbA hS (l_in 1 ex4 (Nat.lt_of_lt_of_le (Nat.add_lt_add_left (by decide) i) hi) hL) dlw_1129 ?_
  refine lv_aload_n hx hb dlw_1130 rfl (lv_at hl 1 rfl) ?_
  refine lv_iload hx hb dlw_1131 (lv_at hl 5 rfl) ?_
  refine lv_iconst (v := 2) hx hb dlw_1133 (by decide) ?_
  refine lv_iadd hx hb dlw_1134 ?_
  refine va_sld hx hb hX hbl hbA hS (l_in 2 ex4 (Nat.lt_of_lt_of_le (Nat.add_lt_add_left (by decide) i) hi) hL) dlw_1135 ?_
  refine l_mod (As := [.int (xs (x4 + 1).toNatClampNeg), .int (xs (x4 + 2).toNatClampNeg)]) Fx hF hI hS hM (cwV 2 hW (gVW wa_336 wa_337 wa_338 (hWMA _ wm_7) (hWMA _ wm_199) hWMA) rfl hrm.1 hrm.2.1 (by decide +kernel) ⟨hrm.2.2.1, (Nat.le_trans (Nat.add_le_add_left hrm.2.2.2 _) (Nat.le_of_ble_eq_true rfl))⟩) rfl hl.1 rfl (Nat.le_of_ble_eq_true rfl) ⟨hce, hsl⟩ dlw_1136 (fun H2 locs2 hI hS => ?_)
  refine lv_istore (lv' := [(6, .int r9), (5, .int k), (0, .ref b), (1, .ref a0), (2, .ref (mO Gm)), (3, .ref o), (4, .int x4)]) hx hb dlw_1139 hl (by decide) rfl (fun ls hl => ?_)
  refine lv_aload_n hx hb dlw_1141 rfl (lv_at hl 4 rfl) ?_
  refine l_mod (As := []) Fx hF hI hS (c_thrown l Gm 0 M2 (M2.1 23) rfl) (cwV 0 hW (gVW wa_231 wa_232 wa_233 (hWMA _ wm_7) (hWMA _ wm_0) hWMA) rfl rfl rfl (by decide +kernel) ⟨Nat.le_of_ble_eq_true rfl, Nat.le_of_ble_eq_true rfl⟩) rfl hl.1 rfl (Nat.le_of_ble_eq_true rfl) ⟨hce, hsl⟩ dlw_1142 (fun H3 locs3 hI hS => ?_)
  refine lv_iload hx hb dlw_1145 (lv_at hl 1 rfl) ?_
  refine lv_icmp_eq (tgt := 1152) hx hb dlw_1147 (by decide) (fun _ => ?_) (fun cq => absurd h23 cq)
  refine lv_iload hx hb dlw_1152 (lv_at hl 1 rfl) ?_
  have fin : W p l e room_1 s m #[Value.ref b] below meth c H3 locs3 (ce + 2) (sl + 21) Q (F0 m 1169 ls []) := by
    refine lv_goto (tgt := 1296) hx hb dlw_1169 (by decide) ?_
    exact kk S2 D2 M2 f2 H3 locs3 ls hj9 hI hS (lv_sub hl [2, 3, 4, 5, 6] rfl)
  refine lv_if_ne (tgt := 1169) hx hb dlw_1154 (by decide) (fun _ => fin) (fun cn => ?_)
  have hk0 : k = 0 := cn
  refine lv_aload_n hx hb dlw_1157 rfl (lv_at hl 5 rfl) ?_
  refine lv_iconst (v := 0) hx hb dlw_1158 (by decide) ?_
  refine va_lald hx hb hF.2.2.2.1 hI.2.2.1 0 0 (n := 1) rfl rfl vp_in01 dlw_1159 ?_
  refine lv_iload hx hb dlw_1160 (lv_at hl 0 rfl) ?_
  refine lv_i2l (v := r9.toInt64) hx hb dlw_1162 rfl ?_
  refine W.lcmp hx hb dlw_1163 ?_
  refine lv_if_eq (tgt := 1169) hx hb dlw_1164 (by decide) (fun _ => fin) (fun cq => absurd ?_ cq)
  rw [show f2 ((0 : Int32).toNatClampNeg) = r9.toInt64 from (hv9 hk0)]
  exact lg_cmp_self _
set_option maxHeartbeats 2000000 in
theorem lc_crossing {p : Program} {l : Launch} {e : Env} {s : State} {m : MethodId} {below : List Frame} {meth : Method} {c : Code} {Q : State → Prop} {G : cG} {Gm : mG} {z : Nat × Nat} {a0 o b L : Nat} {cJ : ClassId} {xs : Nat → Int32} (C0 : lw_At p s m meth c b L xs) (hF : lF_ G Gm cJ z s) {S : CS} {D : CD} {M : MS} {f : Nat → Int64} {H : Heap} {locs : List Loc} {ce sl i : Nat} {x4 : Int32} (hI : lI_ G Gm o cJ s S D M f H) (hS : va_S (fun q : Nat => s.heap.size ≤ q) s.heap H locs) (hL : L ≤ 2560) (hi : i + 5 ≤ L) (ex4 : x4 = nI i) {ls : Array Slot} (hl : lv_has ls 7 [(0, .ref b), (1, .ref a0), (2, .ref (mO Gm)), (3, .ref o), (4, .int x4)]) {rm : Room} (hrm : rm.cells = 0 ∧ rm.slots = 0 ∧ rm.frames + 1 ≤ 12 ∧ rm.locals ≤ 400) (hop : lRes l G Gm S D z a0 o cJ f M yL_crossing wL_crossing yX7_crossing vX7_crossing rm [.ref a0, .int (xs (x4 + 1).toNatClampNeg), .ref o] [.ref (mO Gm), .int (xs (x4 + 1).toNatClampNeg)] (fun b => b.toInt64)) (hce : ce + 2 ≤ 601024) (hsl : sl + 21 ≤ 7293034)
    (kk : ∀ (S2 : CS) (D2 : CD) (M2 : MS) (f2 : Nat → Int64) (H1 : Heap) (locs1 : List Loc) (ls1 : Array Slot), jP_ S2 D2 z a0 M2 → lI_ G Gm o cJ s S2 D2 M2 f2 H1 → va_S (fun q : Nat => s.heap.size ≤ q) s.heap H1 locs1 → lv_has ls1 7 [(0, .ref b), (1, .ref a0), (2, .ref (mO Gm)), (3, .ref o), (4, .int x4)] → W p l e room_1 s m #[Value.ref b] below meth c H1 locs1 (ce + 2) (sl + 21) Q (F0 m 1296 ls1 [])) : W p l e room_1 s m #[Value.ref b] below meth c H locs ce sl Q (F0 m 1172 ls []) := by
  obtain ⟨hx, hb, hr, hml, hown, hts, hX, hbl, hlocks, hgv⟩ := C0
  have hW : ∀ w ∈ WA, w.before #[Value.ref b] s = true := fun w h => hts w (tb_WA w h)
  have Fx : CallFix p m c code 7 s #[Value.ref b] WA RL := ⟨hx, hb, hml, hown, hW⟩
  have hbA : ¬ (fun q : Nat => s.heap.size ≤ q) b := Nat.not_le.mpr hbl
  obtain ⟨k, r9, P, M2, hWc, hM, h23, hP⟩ := hop
  refine lv_aload_n hx hb dlw_1172 rfl (lv_at hl 1 rfl) ?_
  refine lv_aload_n hx hb dlw_1173 rfl (lv_at hl 0 rfl) ?_
  refine lv_iload hx hb dlw_1174 (lv_at hl 4 rfl) ?_
  refine lv_iconst (v := 1) hx hb dlw_1176 (by decide) ?_
  refine lv_iadd hx hb dlw_1177 ?_
  refine va_sld hx hb hX hbl hbA hS (l_in 1 ex4 (Nat.lt_of_lt_of_le (Nat.add_lt_add_left (by decide) i) hi) hL) dlw_1178 ?_
  refine lv_aload_n hx hb dlw_1179 rfl (lv_at hl 3 rfl) ?_
  refine l_wrap (av := [.ref a0, .int (xs (x4 + 1).toNatClampNeg), .ref o]) Fx hF hI hS hWc (fun S2 D2 v h => (hP _ S2 D2 v h).1) (vx_cwSW 3 hW (gSW wa_339 wa_340 wa_227 wa_209) rfl rfl rfl (by decide +kernel) ⟨Nat.le_of_ble_eq_true rfl, Nat.le_of_ble_eq_true rfl⟩) rfl hl.1 rfl (Nat.le_of_ble_eq_true rfl) ⟨hce, hsl⟩ dlw_1180 (fun S2 D2 f2 H1 locs1 hPo hI hS => ?_)
  obtain ⟨hg9, hj9, hv9⟩ := hP _ _ _ _ hPo
  refine lv_istore (lv' := [(5, .int k), (0, .ref b), (1, .ref a0), (2, .ref (mO Gm)), (3, .ref o), (4, .int x4)]) hx hb dlw_1183 hl (by decide) rfl (fun ls hl => ?_)
  refine lv_aload_n hx hb dlw_1185 rfl (lv_at hl 3 rfl) ?_
  refine lv_aload_n hx hb dlw_1186 rfl (lv_at hl 1 rfl) ?_
  refine lv_iload hx hb dlw_1187 (lv_at hl 5 rfl) ?_
  refine lv_iconst (v := 1) hx hb dlw_1189 (by decide) ?_
  refine lv_iadd hx hb dlw_1190 ?_
  refine va_sld hx hb hX hbl hbA hS (l_in 1 ex4 (Nat.lt_of_lt_of_le (Nat.add_lt_add_left (by decide) i) hi) hL) dlw_1191 ?_
  refine l_mod (As := [.int (xs (x4 + 1).toNatClampNeg)]) Fx hF hI hS hM (cwV 1 hW (gVW wa_341 wa_342 wa_343 (hWMA _ wm_7) (hWMA _ wm_205) hWMA) rfl hrm.1 hrm.2.1 (by decide +kernel) ⟨hrm.2.2.1, (Nat.le_trans (Nat.add_le_add_left hrm.2.2.2 _) (Nat.le_of_ble_eq_true rfl))⟩) rfl hl.1 rfl (Nat.le_of_ble_eq_true rfl) ⟨hce, hsl⟩ dlw_1192 (fun H2 locs2 hI hS => ?_)
  refine lv_istore (lv' := [(6, .int r9), (5, .int k), (0, .ref b), (1, .ref a0), (2, .ref (mO Gm)), (3, .ref o), (4, .int x4)]) hx hb dlw_1195 hl (by decide) rfl (fun ls hl => ?_)
  refine lv_aload_n hx hb dlw_1197 rfl (lv_at hl 4 rfl) ?_
  refine l_mod (As := []) Fx hF hI hS (c_thrown l Gm 0 M2 (M2.1 23) rfl) (cwV 0 hW (gVW wa_231 wa_232 wa_233 (hWMA _ wm_7) (hWMA _ wm_0) hWMA) rfl rfl rfl (by decide +kernel) ⟨Nat.le_of_ble_eq_true rfl, Nat.le_of_ble_eq_true rfl⟩) rfl hl.1 rfl (Nat.le_of_ble_eq_true rfl) ⟨hce, hsl⟩ dlw_1198 (fun H3 locs3 hI hS => ?_)
  refine lv_iload hx hb dlw_1201 (lv_at hl 1 rfl) ?_
  refine lv_icmp_eq (tgt := 1208) hx hb dlw_1203 (by decide) (fun _ => ?_) (fun cq => absurd h23 cq)
  refine lv_iload hx hb dlw_1208 (lv_at hl 1 rfl) ?_
  have fin : W p l e room_1 s m #[Value.ref b] below meth c H3 locs3 (ce + 2) (sl + 21) Q (F0 m 1225 ls []) := by
    refine lv_goto (tgt := 1296) hx hb dlw_1225 (by decide) ?_
    exact kk S2 D2 M2 f2 H3 locs3 ls hj9 hI hS (lv_sub hl [2, 3, 4, 5, 6] rfl)
  refine lv_if_ne (tgt := 1225) hx hb dlw_1210 (by decide) (fun _ => fin) (fun cn => ?_)
  have hk0 : k = 0 := cn
  refine lv_aload_n hx hb dlw_1213 rfl (lv_at hl 5 rfl) ?_
  refine lv_iconst (v := 0) hx hb dlw_1214 (by decide) ?_
  refine va_lald hx hb hF.2.2.2.1 hI.2.2.1 0 0 (n := 1) rfl rfl vp_in01 dlw_1215 ?_
  refine lv_iload hx hb dlw_1216 (lv_at hl 0 rfl) ?_
  refine lv_i2l (v := r9.toInt64) hx hb dlw_1218 rfl ?_
  refine W.lcmp hx hb dlw_1219 ?_
  refine lv_if_eq (tgt := 1225) hx hb dlw_1220 (by decide) (fun _ => fin) (fun cq => absurd ?_ cq)
  rw [show f2 ((0 : Int32).toNatClampNeg) = r9.toInt64 from (hv9 hk0)]
  exact lg_cmp_self _
set_option maxHeartbeats 2000000 in
theorem lc_crossingAt {p : Program} {l : Launch} {e : Env} {s : State} {m : MethodId} {below : List Frame} {meth : Method} {c : Code} {Q : State → Prop} {G : cG} {Gm : mG} {z : Nat × Nat} {a0 o b L : Nat} {cJ : ClassId} {xs : Nat → Int32} (C0 : lw_At p s m meth c b L xs) (hF : lF_ G Gm cJ z s) {S : CS} {D : CD} {M : MS} {f : Nat → Int64} {H : Heap} {locs : List Loc} {ce sl i : Nat} {x4 : Int32} (hI : lI_ G Gm o cJ s S D M f H) (hS : va_S (fun q : Nat => s.heap.size ≤ q) s.heap H locs) (hL : L ≤ 2560) (hi : i + 5 ≤ L) (ex4 : x4 = nI i) {ls : Array Slot} (hl : lv_has ls 7 [(0, .ref b), (1, .ref a0), (2, .ref (mO Gm)), (3, .ref o), (4, .int x4)]) {rm : Room} (hrm : rm.cells = 0 ∧ rm.slots = 0 ∧ rm.frames + 1 ≤ 12 ∧ rm.locals ≤ 400) (hop : lRes l G Gm S D z a0 o cJ f M yL_crossingAt wL_crossingAt yX7_crossingAt vX7_crossingAt rm [.ref a0, .int (xs (x4 + 1).toNatClampNeg), .int (xs (x4 + 2).toNatClampNeg), .ref o] [.ref (mO Gm), .int (xs (x4 + 1).toNatClampNeg), .int (xs (x4 + 2).toNatClampNeg)] (fun b => b.toInt64)) (hce : ce + 2 ≤ 601024) (hsl : sl + 21 ≤ 7293034)
    (kk : ∀ (S2 : CS) (D2 : CD) (M2 : MS) (f2 : Nat → Int64) (H1 : Heap) (locs1 : List Loc) (ls1 : Array Slot), jP_ S2 D2 z a0 M2 → lI_ G Gm o cJ s S2 D2 M2 f2 H1 → va_S (fun q : Nat => s.heap.size ≤ q) s.heap H1 locs1 → lv_has ls1 7 [(0, .ref b), (1, .ref a0), (2, .ref (mO Gm)), (3, .ref o), (4, .int x4)] → W p l e room_1 s m #[Value.ref b] below meth c H1 locs1 (ce + 2) (sl + 21) Q (F0 m 1296 ls1 [])) : W p l e room_1 s m #[Value.ref b] below meth c H locs ce sl Q (F0 m 1228 ls []) := by
  obtain ⟨hx, hb, hr, hml, hown, hts, hX, hbl, hlocks, hgv⟩ := C0
  have hW : ∀ w ∈ WA, w.before #[Value.ref b] s = true := fun w h => hts w (tb_WA w h)
  have Fx : CallFix p m c code 7 s #[Value.ref b] WA RL := ⟨hx, hb, hml, hown, hW⟩
  have hbA : ¬ (fun q : Nat => s.heap.size ≤ q) b := Nat.not_le.mpr hbl
  obtain ⟨k, r9, P, M2, hWc, hM, h23, hP⟩ := hop
  refine lv_aload_n hx hb dlw_1228 rfl (lv_at hl 1 rfl) ?_
  refine lv_aload_n hx hb dlw_1229 rfl (lv_at hl 0 rfl) ?_
  refine lv_iload hx hb dlw_1230 (lv_at hl 4 rfl) ?_
  refine lv_iconst (v := 1) hx hb dlw_1232 (by decide) ?_
  refine lv_iadd hx hb dlw_1233 ?_
  refine va_sld hx hb hX hbl hbA hS (l_in 1 ex4 (Nat.lt_of_lt_of_le (Nat.add_lt_add_left (by decide) i) hi) hL) dlw_1234 ?_
  refine lv_aload_n hx hb dlw_1235 rfl (lv_at hl 0 rfl) ?_
  refine lv_iload hx hb dlw_1236 (lv_at hl 4 rfl) ?_
  refine lv_iconst (v := 2) hx hb dlw_1238 (by decide) ?_
  refine lv_iadd hx hb dlw_1239 ?_
  refine va_sld hx hb hX hbl hbA hS (l_in 2 ex4 (Nat.lt_of_lt_of_le (Nat.add_lt_add_left (by decide) i) hi) hL) dlw_1240 ?_
  refine lv_aload_n hx hb dlw_1241 rfl (lv_at hl 3 rfl) ?_
  refine l_wrap (av := [.ref a0, .int (xs (x4 + 1).toNatClampNeg), .int (xs (x4 + 2).toNatClampNeg), .ref o]) Fx hF hI hS hWc (fun S2 D2 v h => (hP _ S2 D2 v h).1) (vx_cwSW 4 hW (gSW wa_344 wa_345 wa_227 wa_213) rfl rfl rfl (by decide +kernel) ⟨Nat.le_of_ble_eq_true rfl, Nat.le_of_ble_eq_true rfl⟩) rfl hl.1 rfl (Nat.le_of_ble_eq_true rfl) ⟨hce, hsl⟩ dlw_1242 (fun S2 D2 f2 H1 locs1 hPo hI hS => ?_)
  obtain ⟨hg9, hj9, hv9⟩ := hP _ _ _ _ hPo
  refine lv_istore (lv' := [(5, .int k), (0, .ref b), (1, .ref a0), (2, .ref (mO Gm)), (3, .ref o), (4, .int x4)]) hx hb dlw_1245 hl (by decide) rfl (fun ls hl => ?_)
  refine lv_aload_n hx hb dlw_1247 rfl (lv_at hl 3 rfl) ?_
  refine lv_aload_n hx hb dlw_1248 rfl (lv_at hl 1 rfl) ?_
  refine lv_iload hx hb dlw_1249 (lv_at hl 5 rfl) ?_
  refine lv_iconst (v := 1) hx hb dlw_1251 (by decide) ?_
  refine lv_iadd hx hb dlw_1252 ?_
  refine va_sld hx hb hX hbl hbA hS (l_in 1 ex4 (Nat.lt_of_lt_of_le (Nat.add_lt_add_left (by decide) i) hi) hL) dlw_1253 ?_
  refine lv_aload_n hx hb dlw_1254 rfl (lv_at hl 1 rfl) ?_
  refine lv_iload hx hb dlw_1255 (lv_at hl 5 rfl) ?_
  refine lv_iconst (v := 2) hx hb dlw_1257 (by decide) ?_
  refine lv_iadd hx hb dlw_1258 ?_
  refine va_sld hx hb hX hbl hbA hS (l_in 2 ex4 (Nat.lt_of_lt_of_le (Nat.add_lt_add_left (by decide) i) hi) hL) dlw_1259 ?_
  refine l_mod (As := [.int (xs (x4 + 1).toNatClampNeg), .int (xs (x4 + 2).toNatClampNeg)]) Fx hF hI hS hM (cwV 2 hW (gVW wa_346 wa_347 wa_348 (hWMA _ wm_7) (hWMA _ wm_210) hWMA) rfl hrm.1 hrm.2.1 (by decide +kernel) ⟨hrm.2.2.1, (Nat.le_trans (Nat.add_le_add_left hrm.2.2.2 _) (Nat.le_of_ble_eq_true rfl))⟩) rfl hl.1 rfl (Nat.le_of_ble_eq_true rfl) ⟨hce, hsl⟩ dlw_1260 (fun H2 locs2 hI hS => ?_)
  refine lv_istore (lv' := [(6, .int r9), (5, .int k), (0, .ref b), (1, .ref a0), (2, .ref (mO Gm)), (3, .ref o), (4, .int x4)]) hx hb dlw_1263 hl (by decide) rfl (fun ls hl => ?_)
  refine lv_aload_n hx hb dlw_1265 rfl (lv_at hl 4 rfl) ?_
  refine l_mod (As := []) Fx hF hI hS (c_thrown l Gm 0 M2 (M2.1 23) rfl) (cwV 0 hW (gVW wa_231 wa_232 wa_233 (hWMA _ wm_7) (hWMA _ wm_0) hWMA) rfl rfl rfl (by decide +kernel) ⟨Nat.le_of_ble_eq_true rfl, Nat.le_of_ble_eq_true rfl⟩) rfl hl.1 rfl (Nat.le_of_ble_eq_true rfl) ⟨hce, hsl⟩ dlw_1266 (fun H3 locs3 hI hS => ?_)
  refine lv_iload hx hb dlw_1269 (lv_at hl 1 rfl) ?_
  refine lv_icmp_eq (tgt := 1276) hx hb dlw_1271 (by decide) (fun _ => ?_) (fun cq => absurd h23 cq)
  refine lv_iload hx hb dlw_1276 (lv_at hl 1 rfl) ?_
  have fin : W p l e room_1 s m #[Value.ref b] below meth c H3 locs3 (ce + 2) (sl + 21) Q (F0 m 1293 ls []) := by
    refine lv_goto (tgt := 1296) hx hb dlw_1293 (by decide) ?_
    exact kk S2 D2 M2 f2 H3 locs3 ls hj9 hI hS (lv_sub hl [2, 3, 4, 5, 6] rfl)
  refine lv_if_ne (tgt := 1293) hx hb dlw_1278 (by decide) (fun _ => fin) (fun cn => ?_)
  have hk0 : k = 0 := cn
  refine lv_aload_n hx hb dlw_1281 rfl (lv_at hl 5 rfl) ?_
  refine lv_iconst (v := 0) hx hb dlw_1282 (by decide) ?_
  refine va_lald hx hb hF.2.2.2.1 hI.2.2.1 0 0 (n := 1) rfl rfl vp_in01 dlw_1283 ?_
  refine lv_iload hx hb dlw_1284 (lv_at hl 0 rfl) ?_
  refine lv_i2l (v := r9.toInt64) hx hb dlw_1286 rfl ?_
  refine W.lcmp hx hb dlw_1287 ?_
  refine lv_if_eq (tgt := 1293) hx hb dlw_1288 (by decide) (fun _ => fin) (fun cq => absurd ?_ cq)
  rw [show f2 ((0 : Int32).toNatClampNeg) = r9.toInt64 from (hv9 hk0)]
  exact lg_cmp_self _
