/-! The law in pieces. -/
def f_L_law_S (F : Nat) (S : CS) (D : CD) (x0 : Nat) (x1 : Nat) (x2 : Nat) (x3 : Nat) : Option (CD × Nat × List Int32 × List Int64) := ckK S x1 6 <| cal (f_X6_faces F S D x1) fun t3 => (if t3 = 1 then caM (f_L_isRefused F S D x1 x3 0) fun D6 t7 => (if t7 = 0 then some (D6, 0, [0, 0], []) else caM (f_L_isRefused F S D6 x1 x3 1) fun D10 t11 => (if t11 = 0 then some (D10, 0, [0, 0], []) else some (D10, 0, [1, 0], []))) else some (D, 0, [0, 0], []))
set_option maxRecDepth 100000 in
set_option maxHeartbeats 4000000 in
theorem r_L_law_S {p : Program} {l : Launch} {e : Env} {s : State} {m : MethodId} {args : Array Value} {below : List Frame} {meth : Method} {c : Code} {Q : State → Prop} {G : cG} {S : CS} {z9 : Nat × Nat} {sz ce sl : Nat} {k0 : Cond} (hfl : l.stackTraces = false) (F : Nat) (x0 : Nat) (x1 : Nat) (x2 : Nat) (x3 : Nat) (hC : cC RL p s m args meth c (k0 :: WA) code 15 ret G S sz) (hv : lPr z9 (cA G S sz) s) (hce : ce + 28 ≤ 600104) (hsl : sl + 168 ≤ 7301314) (D D2 : CD) (id9 : Nat) (vs : List Int32) (us : List Int64) {H : Heap} {locs : List Loc} {ls : Array Slot} (hP : va_P G.1 vwCl (cW G S D) H) (hS : va_S (cA G S sz) s.heap H locs) (hl : lv_has ls 15 [(0, .ref x0), (1, .ref x1), (2, .ref x2), (3, .ref x3)]) (h : f_L_law_S F S D x0 x1 x2 x3 = some (D2, id9, vs, us))
    (kx0 : ∀ (H : Heap) (locs : List Loc) (ls : Array Slot) (x4 : Int32) (x5 : Int32), id9 = 0 → vs = [x4, x5] → us = [] → va_P G.1 vwCl (cW G S D2) H → va_S (cA G S sz) s.heap H locs → lv_has ls 15 [(0, .ref x0), (1, .ref x1), (2, .ref x2), (3, .ref x3), (4, .int x4), (5, .int x5)] → W p l e room_1 s m args below meth c H locs (ce + 28) (sl + 168) Q (F0 m 53 ls [])) : W p l e room_1 s m args below meth c H locs ce sl Q (F0 m 17 ls []) := by
  have hC0 := hC
  obtain ⟨hx, hb, -, hts, hown, -, hml, -, -, -⟩ := hC0
  have hce : ce + 28 ≤ (room_1).cells := hce
  have hsl : sl + 168 ≤ (room_1).slots := hsl
  unfold f_L_law_S at h
  refine lv_aload_n hx hb dL_law_17 rfl (lv_at hl 1 rfl) ?_
  obtain ⟨z1, h⟩ := ckK_el h
  obtain ⟨t3, e2, h⟩ := cal_el h
  refine g_VI (As := []) (rest := []) hC hP hS z1.1 (cE_6 z1.2) (C := RX6) (T := TX6) (N := 8) rfl (m_X6_faces l G F S D x1 t3 e2) (cwV 0 hts (gVA wa_217 wa_218 wa_219 (hWCA _ wc_66) (hWCA _ wc_77) hWCA) rfl rfl rfl (by decide +kernel) ⟨Nat.le_of_ble_eq_true rfl, Nat.le_of_ble_eq_true rfl⟩) rfl hl.1 rfl (Nat.le_of_ble_eq_true rfl) dL_law_18 ⟨by omega, by omega⟩ (fun H locs hP hS => ?_)
  refine lv_iconst (v := 1) hx hb dL_law_21 (by decide) ?_
  refine lv_icmp_ne (tgt := 47) hx hb dL_law_22 (by decide) (fun u4 => ?_) (fun u4 => ?_)
  · have h := ite_f u4 h
    refine lv_iconst (v := 0) hx hb dL_law_47 (by decide) ?_
    refine lv_istore (lv' := [(4, .int 0), (0, .ref x0), (1, .ref x1), (2, .ref x2), (3, .ref x3)]) hx hb dL_law_48 hl (by decide) rfl (fun ls hl => ?_)
    refine lv_iconst (v := 0) hx hb dL_law_50 (by decide) ?_
    refine lv_istore (lv' := [(5, .int 0), (4, .int 0), (0, .ref x0), (1, .ref x1), (2, .ref x2), (3, .ref x3)]) hx hb dL_law_51 hl (by decide) rfl (fun ls hl => ?_)
    cases h
    refine W.widen (k := ce + 28) (n := sl + 168) (by omega) (by omega) ?_
    exact kx0 _ _ _ 0 0 rfl rfl rfl hP hS (lv_sub hl [2, 3, 4, 5, 1, 0] rfl)
  · have h := ite_t u4 h
    refine lv_aload_n hx hb dL_law_25 rfl (lv_at hl 1 rfl) ?_
    refine lv_aload_n hx hb dL_law_26 rfl (lv_at hl 3 rfl) ?_
    refine lv_iconst (v := 0) hx hb dL_law_27 (by decide) ?_
    obtain ⟨D6, t7, e5, h⟩ := caM_el h
    refine g_SB (As := [.ref x1, .ref x3, .int 0]) (rest := []) (mc := 14) (ms := 84) hC hv hP hS (m_L_isRefused l hfl G F S z9 D D6 x1 x3 0 t7 e5) (va_cwS 3 hts (gSA wa_273 wa_274 wa_233 wa_262 (fun w h => h)) rfl rfl rfl (by decide +kernel) ⟨Nat.le_of_ble_eq_true rfl, Nat.le_of_ble_eq_true rfl⟩) rfl hl.1 rfl (Nat.le_of_ble_eq_true rfl) dL_law_28 ⟨by omega, by omega⟩ (fun H locs hP hS => ?_)
    refine lv_if_eq (tgt := 47) hx hb dL_law_31 (by decide) (fun u8 => ?_) (fun u8 => ?_)
    · have h := ite_t u8 h
      refine lv_iconst (v := 0) hx hb dL_law_47 (by decide) ?_
      refine lv_istore (lv' := [(4, .int 0), (0, .ref x0), (1, .ref x1), (2, .ref x2), (3, .ref x3)]) hx hb dL_law_48 hl (by decide) rfl (fun ls hl => ?_)
      refine lv_iconst (v := 0) hx hb dL_law_50 (by decide) ?_
      refine lv_istore (lv' := [(5, .int 0), (4, .int 0), (0, .ref x0), (1, .ref x1), (2, .ref x2), (3, .ref x3)]) hx hb dL_law_51 hl (by decide) rfl (fun ls hl => ?_)
      cases h
      refine W.widen (k := ce + 28) (n := sl + 168) (by omega) (by omega) ?_
      exact kx0 _ _ _ 0 0 rfl rfl rfl hP hS (lv_sub hl [2, 3, 4, 5, 1, 0] rfl)
    · have h := ite_f u8 h
      refine lv_aload_n hx hb dL_law_34 rfl (lv_at hl 1 rfl) ?_
      refine lv_aload_n hx hb dL_law_35 rfl (lv_at hl 3 rfl) ?_
      refine lv_iconst (v := 1) hx hb dL_law_36 (by decide) ?_
      obtain ⟨D10, t11, e9, h⟩ := caM_el h
      refine g_SB (As := [.ref x1, .ref x3, .int 1]) (rest := []) (mc := 14) (ms := 84) hC hv hP hS (m_L_isRefused l hfl G F S z9 D6 D10 x1 x3 1 t11 e9) (va_cwS 3 hts (gSA wa_273 wa_274 wa_233 wa_262 (fun w h => h)) rfl rfl rfl (by decide +kernel) ⟨Nat.le_of_ble_eq_true rfl, Nat.le_of_ble_eq_true rfl⟩) rfl hl.1 rfl (Nat.le_of_ble_eq_true rfl) dL_law_37 ⟨by omega, by omega⟩ (fun H locs hP hS => ?_)
      refine lv_if_eq (tgt := 47) hx hb dL_law_40 (by decide) (fun u12 => ?_) (fun u12 => ?_)
      · have h := ite_t u12 h
        refine lv_iconst (v := 0) hx hb dL_law_47 (by decide) ?_
        refine lv_istore (lv' := [(4, .int 0), (0, .ref x0), (1, .ref x1), (2, .ref x2), (3, .ref x3)]) hx hb dL_law_48 hl (by decide) rfl (fun ls hl => ?_)
        refine lv_iconst (v := 0) hx hb dL_law_50 (by decide) ?_
        refine lv_istore (lv' := [(5, .int 0), (4, .int 0), (0, .ref x0), (1, .ref x1), (2, .ref x2), (3, .ref x3)]) hx hb dL_law_51 hl (by decide) rfl (fun ls hl => ?_)
        cases h
        refine W.widen (k := ce + 28) (n := sl + 168) (by omega) (by omega) ?_
        exact kx0 _ _ _ 0 0 rfl rfl rfl hP hS (lv_sub hl [2, 3, 4, 5, 1, 0] rfl)
      · have h := ite_f u12 h
        refine lv_iconst (v := 1) hx hb dL_law_43 (by decide) ?_
        refine lv_goto (tgt := 48) hx hb dL_law_44 (by decide) ?_
        refine lv_istore (lv' := [(4, .int 1), (0, .ref x0), (1, .ref x1), (2, .ref x2), (3, .ref x3)]) hx hb dL_law_48 hl (by decide) rfl (fun ls hl => ?_)
        refine lv_iconst (v := 0) hx hb dL_law_50 (by decide) ?_
        refine lv_istore (lv' := [(5, .int 0), (4, .int 1), (0, .ref x0), (1, .ref x1), (2, .ref x2), (3, .ref x3)]) hx hb dL_law_51 hl (by decide) rfl (fun ls hl => ?_)
        cases h
        refine W.widen (k := ce + 28) (n := sl + 168) (by omega) (by omega) ?_
        exact kx0 _ _ _ 1 0 rfl rfl rfl hP hS (lv_sub hl [2, 3, 4, 5, 1, 0] rfl)

def f_L_law_A_b258 (F : Nat) (S : CS) (dc : Int32 → Int32) (x0 : Nat) (x1 : Nat) (x2 : Nat) (x3 : Nat) (D : CD) (x5 : Int32) (x6 : Int32) (x7 : Int32) (x8 : Int32) (x11 : Int32) (x12 : Int32) (x13 : Int32) (s0 : Int32) : Option (CD × Nat × List Int32 × List Int64) := ckK S x3 8 <| rdI (S.2.2.2 x3) (D.2.2.1 x3) 0 fun t2 => (if t2 ≤ 0 then some (D, 2, [x5, x6, x7, x11, x12, x13, s0], []) else (if x8 ≤ 8 then some (D, 2, [x5, x6, x7, x11, x12, x13, s0], []) else (if (x8 - x8 / 3 * 3) = 0 then rdI (S.2.2.2 x3) (D.2.2.1 x3) 0 fun t8 => dvI t8 <| ckK S x2 8 <| rdI (S.2.2.2 x2) (D.2.2.1 x2) ((4 * (x7 - x7 / t8 * t8)) + 2) fun t13 => rdI (S.2.2.2 x3) (D.2.2.1 x3) 0 fun t16 => dvI t16 <| rdI (S.2.2.2 x2) (D.2.2.1 x2) ((4 * (x7 - x7 / t16 * t16)) + 3) fun t20 => some (D, 2, [x5, x6, x7, x11, x12, t13, t20], []) else some (D, 2, [x5, x6, x7, x11, x12, x13, s0], []))))
def f_L_law_A_b229 (F : Nat) (S : CS) (dc : Int32 → Int32) (x0 : Nat) (x1 : Nat) (x2 : Nat) (x3 : Nat) (D : CD) (x5 : Int32) (x6 : Int32) (x7 : Int32) (x8 : Int32) (x9 : Int32) (x10 : Int32) (x11 : Int32) (x12 : Int32) (s0 : Int32) : Option (CD × Nat × List Int32 × List Int64) := (if x8 = 7 then f_L_law_A_b258 F S dc x0 x1 x2 x3 D x5 x6 x7 x8 x11 x12 s0 x12 else dcW dc (x5 + 60) fun t3 => dvI x9 <| f_L_law_A_b258 F S dc x0 x1 x2 x3 D x5 x6 x7 x8 x11 x12 s0 ((t3 - t3 / x9 * x9) * x10))
def f_L_law_A_b180 (F : Nat) (S : CS) (dc : Int32 → Int32) (x0 : Nat) (x1 : Nat) (x2 : Nat) (x3 : Nat) (D : CD) (x5 : Int32) (x6 : Int32) (x7 : Int32) (x8 : Int32) (x9 : Int32) (s0 : Int32) : Option (CD × Nat × List Int32 × List Int64) := dvI x9 <| dvI x9 <| (if x8 = 6 then f_L_law_A_b229 F S dc x0 x1 x2 x3 D x5 x6 x7 x8 x9 s0 ((x7 - x7 / x9 * x9) * s0) (((x7 / 101) - (x7 / 101) / x9 * x9) * s0) ((x7 - x7 / x9 * x9) * s0) else dvI x9 <| f_L_law_A_b229 F S dc x0 x1 x2 x3 D x5 x6 x7 x8 x9 s0 ((x7 - x7 / x9 * x9) * s0) (((x7 / 101) - (x7 / 101) / x9 * x9) * s0) (((x7 / 10201) - (x7 / 10201) / x9 * x9) * s0))
def f_L_law_A_b154 (F : Nat) (S : CS) (dc : Int32 → Int32) (x0 : Nat) (x1 : Nat) (x2 : Nat) (x3 : Nat) (D : CD) (x5 : Int32) (x6 : Int32) (x7 : Int32) (x8 : Int32) (s0 : Int32) : Option (CD × Nat × List Int32 × List Int64) := (if 8 ≤ x8 then (if 11 ≤ x8 then f_L_law_A_b180 F S dc x0 x1 x2 x3 D x5 x6 x7 x8 s0 1 else f_L_law_A_b180 F S dc x0 x1 x2 x3 D x5 x6 x7 x8 s0 5) else f_L_law_A_b180 F S dc x0 x1 x2 x3 D x5 x6 x7 x8 s0 20)
def f_L_law_A_b128 (F : Nat) (S : CS) (dc : Int32 → Int32) (x0 : Nat) (x1 : Nat) (x2 : Nat) (x3 : Nat) (D : CD) (x5 : Int32) (x6 : Int32) (x7 : Int32) (x8 : Int32) : Option (CD × Nat × List Int32 × List Int64) := (if 8 ≤ x8 then (if 11 ≤ x8 then f_L_law_A_b154 F S dc x0 x1 x2 x3 D x5 x6 x7 x8 101 else f_L_law_A_b154 F S dc x0 x1 x2 x3 D x5 x6 x7 x8 21) else f_L_law_A_b154 F S dc x0 x1 x2 x3 D x5 x6 x7 x8 6)
def f_L_law_A_b108 (F : Nat) (S : CS) (dc : Int32 → Int32) (x0 : Nat) (x1 : Nat) (x2 : Nat) (x3 : Nat) (D : CD) (x5 : Int32) (x6 : Int32) (x7 : Int32) (x8 : Int32) (s0 : Int32) (s1 : Int32) : Option (CD × Nat × List Int32 × List Int64) := (if s0 ≤ s1 then f_L_law_A_b128 F S dc x0 x1 x2 x3 D x5 x6 x7 x8 else some (D, 1, [x5, x6, x7], []))
def f_L_law_A (F : Nat) (S : CS) (dc : Int32 → Int32) (D : CD) (x0 : Nat) (x1 : Nat) (x2 : Nat) (x3 : Nat) (x4 : Int32) (x5 : Int32) : Option (CD × Nat × List Int32 × List Int64) := (if 45 ≤ x5 then some (D, 0, [x4], []) else (if x4 = 0 then some (D, 0, [x4], []) else dcW dc x5 fun t4 => ckK S x3 8 <| rdI (S.2.2.2 x3) (D.2.2.1 x3) 0 fun t7 => (if t7 ≤ 0 then f_L_law_A_b128 F S dc x0 x1 x2 x3 D x5 t4 (t4 / 16) (t4 - t4 / 16 * 16) else rdI (S.2.2.2 x3) (D.2.2.1 x3) 0 fun t11 => (if t11 ≤ 9 then f_L_law_A_b108 F S dc x0 x1 x2 x3 D x5 t4 (t4 / 16) (t4 - t4 / 16 * 16) 2 (t4 - t4 / 16 * 16) else f_L_law_A_b108 F S dc x0 x1 x2 x3 D x5 t4 (t4 / 16) (t4 - t4 / 16 * 16) 5 (t4 - t4 / 16 * 16)))))
set_option maxRecDepth 100000 in
set_option maxHeartbeats 4000000 in
theorem r_L_law_A {p : Program} {l : Launch} {e : Env} {s : State} {m : MethodId} {args : Array Value} {below : List Frame} {meth : Method} {c : Code} {Q : State → Prop} {G : cG} {S : CS} {z9 : Nat × Nat} {sz ce sl : Nat} {k0 : Cond} (hfl : l.stackTraces = false) (F : Nat) (x0 : Nat) (x1 : Nat) (x2 : Nat) (x3 : Nat) (dc : Int32 → Int32) (hdc : dcOk l s x0 dc (cA G S sz)) (hC : cC RL p s m args meth c (k0 :: WA) code 15 ret G S sz) (hv : lPr z9 (cA G S sz) s) (hce : ce + 0 ≤ 600104) (hsl : sl + 0 ≤ 7301314) (D D2 : CD) (x4 : Int32) (x5 : Int32) (id9 : Nat) (vs : List Int32) (us : List Int64) {H : Heap} {locs : List Loc} {ls : Array Slot} (hP : va_P G.1 vwCl (cW G S D) H) (hS : va_S (cA G S sz) s.heap H locs) (hl : lv_has ls 15 [(0, .ref x0), (1, .ref x1), (2, .ref x2), (3, .ref x3), (4, .int x4), (5, .int x5)]) (h : f_L_law_A F S dc D x0 x1 x2 x3 x4 x5 = some (D2, id9, vs, us))
    (kx0 : ∀ (H : Heap) (locs : List Loc) (ls : Array Slot) (x4 : Int32), id9 = 0 → vs = [x4] → us = [] → va_P G.1 vwCl (cW G S D2) H → va_S (cA G S sz) s.heap H locs → lv_has ls 15 [(4, .int x4)] → W p l e room_1 s m args below meth c H locs (ce + 0) (sl + 0) Q (F0 m 524 ls []))
    (kx1 : ∀ (H : Heap) (locs : List Loc) (ls : Array Slot) (x5 : Int32) (x6 : Int32) (x7 : Int32), id9 = 1 → vs = [x5, x6, x7] → us = [] → va_P G.1 vwCl (cW G S D2) H → va_S (cA G S sz) s.heap H locs → lv_has ls 15 [(0, .ref x0), (1, .ref x1), (2, .ref x2), (3, .ref x3), (5, .int x5), (6, .int x6), (7, .int x7)] → W p l e room_1 s m args below meth c H locs (ce + 0) (sl + 0) Q (F0 m 111 ls []))
    (kx2 : ∀ (H : Heap) (locs : List Loc) (ls : Array Slot) (x5 : Int32) (x6 : Int32) (x7 : Int32) (x11 : Int32) (x12 : Int32) (x13 : Int32) (x14 : Int32), id9 = 2 → vs = [x5, x6, x7, x11, x12, x13, x14] → us = [] → va_P G.1 vwCl (cW G S D2) H → va_S (cA G S sz) s.heap H locs → lv_has ls 15 [(0, .ref x0), (1, .ref x1), (2, .ref x2), (3, .ref x3), (5, .int x5), (6, .int x6), (7, .int x7), (11, .int x11), (12, .int x12), (13, .int x13), (14, .int x14)] → W p l e room_1 s m args below meth c H locs (ce + 0) (sl + 0) Q (F0 m 308 ls [])) : W p l e room_1 s m args below meth c H locs ce sl Q (F0 m 53 ls []) := by
  have hC0 := hC
  obtain ⟨hx, hb, -, hts, hown, -, hml, -, -, -⟩ := hC0
  have hce : ce + 0 ≤ (room_1).cells := hce
  have hsl : sl + 0 ≤ (room_1).slots := hsl
  have b258 : ∀ (H : Heap) (locs : List Loc) (ls : Array Slot) (D : CD) (x5 : Int32) (x6 : Int32) (x7 : Int32) (x8 : Int32) (x11 : Int32) (x12 : Int32) (x13 : Int32) (s0 : Int32), va_P G.1 vwCl (cW G S D) H → va_S (cA G S sz) s.heap H locs → lv_has ls 15 [(0, .ref x0), (1, .ref x1), (2, .ref x2), (3, .ref x3), (5, .int x5), (6, .int x6), (7, .int x7), (8, .int x8), (11, .int x11), (12, .int x12), (13, .int x13)] → f_L_law_A_b258 F S dc x0 x1 x2 x3 D x5 x6 x7 x8 x11 x12 x13 s0 = some (D2, id9, vs, us) → W p l e room_1 s m args below meth c H locs (ce + 0) (sl + 0) Q (F0 m 258 ls [.int s0]) := by
    intro H locs ls D x5 x6 x7 x8 x11 x12 x13 s0 hP hS hl h
    unfold f_L_law_A_b258 at h
    refine lv_istore (lv' := [(14, .int s0), (0, .ref x0), (1, .ref x1), (2, .ref x2), (3, .ref x3), (5, .int x5), (6, .int x6), (7, .int x7), (8, .int x8), (11, .int x11), (12, .int x12), (13, .int x13)]) hx hb dL_law_258 hl (by decide) rfl (fun ls hl => ?_)
    refine lv_aload_n hx hb dL_law_260 rfl (lv_at hl 4 rfl) ?_
    refine lv_iconst (v := 0) hx hb dL_law_261 (by decide) ?_
    obtain ⟨z1, h⟩ := ckK_el h
    obtain ⟨y3, t2, e4, h⟩ := rdI_el h
    refine g_ild hC hP z1.1 z1.2 y3 e4 dL_law_262 ?_
    refine lv_if_le (tgt := 308) hx hb dL_law_263 (by decide) (fun u5 => ?_) (fun u5 => ?_)
    · have h := ite_t u5 h
      cases h
      refine W.widen (k := ce + 0) (n := sl + 0) (by omega) (by omega) ?_
      exact kx2 _ _ _ x5 x6 x7 x11 x12 x13 s0 rfl rfl rfl hP hS (lv_sub hl [1, 2, 3, 4, 5, 6, 7, 9, 10, 11, 0] rfl)
    · have h := ite_f u5 h
      refine lv_iload hx hb dL_law_266 (lv_at hl 8 rfl) ?_
      refine lv_bipush (v := 8) hx hb dL_law_268 (by decide) ?_
      refine lv_icmp_le (tgt := 308) hx hb dL_law_270 (by decide) (fun u6 => ?_) (fun u6 => ?_)
      · have h := ite_t u6 h
        cases h
        refine W.widen (k := ce + 0) (n := sl + 0) (by omega) (by omega) ?_
        exact kx2 _ _ _ x5 x6 x7 x11 x12 x13 s0 rfl rfl rfl hP hS (lv_sub hl [1, 2, 3, 4, 5, 6, 7, 9, 10, 11, 0] rfl)
      · have h := ite_f u6 h
        refine lv_iload hx hb dL_law_273 (lv_at hl 8 rfl) ?_
        refine lv_iconst (v := 3) hx hb dL_law_275 (by decide) ?_
        refine lv_irem hx hb dL_law_276 (by decide) ?_
        refine lv_if_ne (tgt := 308) hx hb dL_law_277 (by decide) (fun u7 => ?_) (fun u7 => ?_)
        · have h := ite_f u7 h
          cases h
          refine W.widen (k := ce + 0) (n := sl + 0) (by omega) (by omega) ?_
          exact kx2 _ _ _ x5 x6 x7 x11 x12 x13 s0 rfl rfl rfl hP hS (lv_sub hl [1, 2, 3, 4, 5, 6, 7, 9, 10, 11, 0] rfl)
        · have h := ite_t u7 h
          refine lv_aload_n hx hb dL_law_280 rfl (lv_at hl 3 rfl) ?_
          refine lv_iconst (v := 4) hx hb dL_law_281 (by decide) ?_
          refine lv_iload hx hb dL_law_282 (lv_at hl 7 rfl) ?_
          refine lv_aload_n hx hb dL_law_284 rfl (lv_at hl 4 rfl) ?_
          refine lv_iconst (v := 0) hx hb dL_law_285 (by decide) ?_
          obtain ⟨y9, t8, e10, h⟩ := rdI_el h
          refine g_ild hC hP z1.1 z1.2 y9 e10 dL_law_286 ?_
          obtain ⟨z11, h⟩ := dvI_el h
          refine lv_irem hx hb dL_law_287 z11 ?_
          refine lv_imul hx hb dL_law_288 ?_
          refine lv_iconst (v := 2) hx hb dL_law_289 (by decide) ?_
          refine lv_iadd hx hb dL_law_290 ?_
          obtain ⟨z12, h⟩ := ckK_el h
          obtain ⟨y14, t13, e15, h⟩ := rdI_el h
          refine g_ild hC hP z12.1 z12.2 y14 e15 dL_law_291 ?_
          refine lv_istore (lv' := [(13, .int t13), (14, .int s0), (0, .ref x0), (1, .ref x1), (2, .ref x2), (3, .ref x3), (5, .int x5), (6, .int x6), (7, .int x7), (8, .int x8), (11, .int x11), (12, .int x12)]) hx hb dL_law_292 hl (by decide) rfl (fun ls hl => ?_)
          refine lv_aload_n hx hb dL_law_294 rfl (lv_at hl 4 rfl) ?_
          refine lv_iconst (v := 4) hx hb dL_law_295 (by decide) ?_
          refine lv_iload hx hb dL_law_296 (lv_at hl 8 rfl) ?_
          refine lv_aload_n hx hb dL_law_298 rfl (lv_at hl 5 rfl) ?_
          refine lv_iconst (v := 0) hx hb dL_law_299 (by decide) ?_
          obtain ⟨y17, t16, e18, h⟩ := rdI_el h
          refine g_ild hC hP z1.1 z1.2 y17 e18 dL_law_300 ?_
          obtain ⟨z19, h⟩ := dvI_el h
          refine lv_irem hx hb dL_law_301 z19 ?_
          refine lv_imul hx hb dL_law_302 ?_
          refine lv_iconst (v := 3) hx hb dL_law_303 (by decide) ?_
          refine lv_iadd hx hb dL_law_304 ?_
          obtain ⟨y21, t20, e22, h⟩ := rdI_el h
          refine g_ild hC hP z12.1 z12.2 y21 e22 dL_law_305 ?_
          refine lv_istore (lv' := [(14, .int t20), (13, .int t13), (0, .ref x0), (1, .ref x1), (2, .ref x2), (3, .ref x3), (5, .int x5), (6, .int x6), (7, .int x7), (8, .int x8), (11, .int x11), (12, .int x12)]) hx hb dL_law_306 hl (by decide) rfl (fun ls hl => ?_)
          cases h
          refine W.widen (k := ce + 0) (n := sl + 0) (by omega) (by omega) ?_
          exact kx2 _ _ _ x5 x6 x7 x11 x12 t13 t20 rfl rfl rfl hP hS (lv_sub hl [2, 3, 4, 5, 6, 7, 8, 10, 11, 1, 0] rfl)
  have b229 : ∀ (H : Heap) (locs : List Loc) (ls : Array Slot) (D : CD) (x5 : Int32) (x6 : Int32) (x7 : Int32) (x8 : Int32) (x9 : Int32) (x10 : Int32) (x11 : Int32) (x12 : Int32) (s0 : Int32), va_P G.1 vwCl (cW G S D) H → va_S (cA G S sz) s.heap H locs → lv_has ls 15 [(0, .ref x0), (1, .ref x1), (2, .ref x2), (3, .ref x3), (5, .int x5), (6, .int x6), (7, .int x7), (8, .int x8), (9, .int x9), (10, .int x10), (11, .int x11), (12, .int x12)] → f_L_law_A_b229 F S dc x0 x1 x2 x3 D x5 x6 x7 x8 x9 x10 x11 x12 s0 = some (D2, id9, vs, us) → W p l e room_1 s m args below meth c H locs (ce + 0) (sl + 0) Q (F0 m 229 ls [.int s0]) := by
    intro H locs ls D x5 x6 x7 x8 x9 x10 x11 x12 s0 hP hS hl h
    unfold f_L_law_A_b229 at h
    refine lv_istore (lv' := [(13, .int s0), (0, .ref x0), (1, .ref x1), (2, .ref x2), (3, .ref x3), (5, .int x5), (6, .int x6), (7, .int x7), (8, .int x8), (9, .int x9), (10, .int x10), (11, .int x11), (12, .int x12)]) hx hb dL_law_229 hl (by decide) rfl (fun ls hl => ?_)
    refine lv_iload hx hb dL_law_231 (lv_at hl 8 rfl) ?_
    refine lv_bipush (v := 7) hx hb dL_law_233 (by decide) ?_
    refine lv_icmp_ne (tgt := 243) hx hb dL_law_235 (by decide) (fun u1 => ?_) (fun u1 => ?_)
    · have h := ite_f u1 h
      refine lv_aload_n hx hb dL_law_243 rfl (lv_at hl 1 rfl) ?_
      refine lv_iload hx hb dL_law_244 (lv_at hl 5 rfl) ?_
      refine lv_bipush (v := 60) hx hb dL_law_246 (by decide) ?_
      refine lv_iadd hx hb dL_law_248 ?_
      obtain ⟨z2, t3, e4, h⟩ := dcW_el h
      refine g_SD (As := [.ref x0, .int (x5 + 60)]) (rest := []) hC hP hS hdc z2 (va_cwS 2 hts (gSA wa_275 wa_276 wa_233 wa_138 (fun w h => h)) rfl rfl rfl (by decide +kernel) ⟨Nat.le_of_ble_eq_true rfl, Nat.le_of_ble_eq_true rfl⟩) rfl rfl hl.1 rfl (Nat.le_of_ble_eq_true rfl) dL_law_249 ⟨by omega, by omega⟩ e4 (fun H locs hP hS => ?_)
      refine lv_iload hx hb dL_law_252 (lv_at hl 9 rfl) ?_
      obtain ⟨z5, h⟩ := dvI_el h
      refine lv_irem hx hb dL_law_254 z5 ?_
      refine lv_iload hx hb dL_law_255 (lv_at hl 10 rfl) ?_
      refine lv_imul hx hb dL_law_257 ?_
      refine W.widen (k := ce + 0) (n := sl + 0) (by omega) (by omega) ?_
      exact b258 _ _ _ D x5 x6 x7 x8 x11 x12 s0 ((t3 - t3 / x9 * x9) * x10) hP hS (lv_sub hl [1, 2, 3, 4, 5, 6, 7, 8, 11, 12, 0] rfl) h
    · have h := ite_t u1 h
      refine lv_iload hx hb dL_law_238 (lv_at hl 12 rfl) ?_
      refine lv_goto (tgt := 258) hx hb dL_law_240 (by decide) ?_
      refine W.widen (k := ce + 0) (n := sl + 0) (by omega) (by omega) ?_
      exact b258 _ _ _ D x5 x6 x7 x8 x11 x12 s0 x12 hP hS (lv_sub hl [1, 2, 3, 4, 5, 6, 7, 8, 11, 12, 0] rfl) h
  have b180 : ∀ (H : Heap) (locs : List Loc) (ls : Array Slot) (D : CD) (x5 : Int32) (x6 : Int32) (x7 : Int32) (x8 : Int32) (x9 : Int32) (s0 : Int32), va_P G.1 vwCl (cW G S D) H → va_S (cA G S sz) s.heap H locs → lv_has ls 15 [(0, .ref x0), (1, .ref x1), (2, .ref x2), (3, .ref x3), (5, .int x5), (6, .int x6), (7, .int x7), (8, .int x8), (9, .int x9)] → f_L_law_A_b180 F S dc x0 x1 x2 x3 D x5 x6 x7 x8 x9 s0 = some (D2, id9, vs, us) → W p l e room_1 s m args below meth c H locs (ce + 0) (sl + 0) Q (F0 m 180 ls [.int s0]) := by
    intro H locs ls D x5 x6 x7 x8 x9 s0 hP hS hl h
    unfold f_L_law_A_b180 at h
    refine lv_istore (lv' := [(10, .int s0), (0, .ref x0), (1, .ref x1), (2, .ref x2), (3, .ref x3), (5, .int x5), (6, .int x6), (7, .int x7), (8, .int x8), (9, .int x9)]) hx hb dL_law_180 hl (by decide) rfl (fun ls hl => ?_)
    refine lv_iload hx hb dL_law_182 (lv_at hl 7 rfl) ?_
    refine lv_iload hx hb dL_law_184 (lv_at hl 9 rfl) ?_
    obtain ⟨z1, h⟩ := dvI_el h
    refine lv_irem hx hb dL_law_186 z1 ?_
    refine lv_iload hx hb dL_law_187 (lv_at hl 0 rfl) ?_
    refine lv_imul hx hb dL_law_189 ?_
    refine lv_istore (lv' := [(11, .int ((x7 - x7 / x9 * x9) * s0)), (10, .int s0), (0, .ref x0), (1, .ref x1), (2, .ref x2), (3, .ref x3), (5, .int x5), (6, .int x6), (7, .int x7), (8, .int x8), (9, .int x9)]) hx hb dL_law_190 hl (by decide) rfl (fun ls hl => ?_)
    refine lv_iload hx hb dL_law_192 (lv_at hl 8 rfl) ?_
    refine lv_bipush (v := 101) hx hb dL_law_194 (by decide) ?_
    refine lv_idiv hx hb dL_law_196 (by decide) ?_
    refine lv_iload hx hb dL_law_197 (lv_at hl 10 rfl) ?_
    obtain ⟨z2, h⟩ := dvI_el h
    refine lv_irem hx hb dL_law_199 z2 ?_
    refine lv_iload hx hb dL_law_200 (lv_at hl 1 rfl) ?_
    refine lv_imul hx hb dL_law_202 ?_
    refine lv_istore (lv' := [(12, .int (((x7 / 101) - (x7 / 101) / x9 * x9) * s0)), (11, .int ((x7 - x7 / x9 * x9) * s0)), (10, .int s0), (0, .ref x0), (1, .ref x1), (2, .ref x2), (3, .ref x3), (5, .int x5), (6, .int x6), (7, .int x7), (8, .int x8), (9, .int x9)]) hx hb dL_law_203 hl (by decide) rfl (fun ls hl => ?_)
    refine lv_iload hx hb dL_law_205 (lv_at hl 10 rfl) ?_
    refine lv_bipush (v := 6) hx hb dL_law_207 (by decide) ?_
    refine lv_icmp_ne (tgt := 217) hx hb dL_law_209 (by decide) (fun u3 => ?_) (fun u3 => ?_)
    · have h := ite_f u3 h
      refine lv_iload hx hb dL_law_217 (lv_at hl 9 rfl) ?_
      refine lv_sipush (v := 10201) hx hb dL_law_219 (by decide) ?_
      refine lv_idiv hx hb dL_law_222 (by decide) ?_
      refine lv_iload hx hb dL_law_223 (lv_at hl 11 rfl) ?_
      obtain ⟨z4, h⟩ := dvI_el h
      refine lv_irem hx hb dL_law_225 z4 ?_
      refine lv_iload hx hb dL_law_226 (lv_at hl 2 rfl) ?_
      refine lv_imul hx hb dL_law_228 ?_
      refine W.widen (k := ce + 0) (n := sl + 0) (by omega) (by omega) ?_
      exact b229 _ _ _ D x5 x6 x7 x8 x9 s0 ((x7 - x7 / x9 * x9) * s0) (((x7 / 101) - (x7 / 101) / x9 * x9) * s0) (((x7 / 10201) - (x7 / 10201) / x9 * x9) * s0) hP hS (lv_sub hl [3, 4, 5, 6, 7, 8, 9, 10, 11, 2, 1, 0] rfl) h
    · have h := ite_t u3 h
      refine lv_iload hx hb dL_law_212 (lv_at hl 1 rfl) ?_
      refine lv_goto (tgt := 229) hx hb dL_law_214 (by decide) ?_
      refine W.widen (k := ce + 0) (n := sl + 0) (by omega) (by omega) ?_
      exact b229 _ _ _ D x5 x6 x7 x8 x9 s0 ((x7 - x7 / x9 * x9) * s0) (((x7 / 101) - (x7 / 101) / x9 * x9) * s0) ((x7 - x7 / x9 * x9) * s0) hP hS (lv_sub hl [3, 4, 5, 6, 7, 8, 9, 10, 11, 2, 1, 0] rfl) h
  have b154 : ∀ (H : Heap) (locs : List Loc) (ls : Array Slot) (D : CD) (x5 : Int32) (x6 : Int32) (x7 : Int32) (x8 : Int32) (s0 : Int32), va_P G.1 vwCl (cW G S D) H → va_S (cA G S sz) s.heap H locs → lv_has ls 15 [(0, .ref x0), (1, .ref x1), (2, .ref x2), (3, .ref x3), (5, .int x5), (6, .int x6), (7, .int x7), (8, .int x8)] → f_L_law_A_b154 F S dc x0 x1 x2 x3 D x5 x6 x7 x8 s0 = some (D2, id9, vs, us) → W p l e room_1 s m args below meth c H locs (ce + 0) (sl + 0) Q (F0 m 154 ls [.int s0]) := by
    intro H locs ls D x5 x6 x7 x8 s0 hP hS hl h
    unfold f_L_law_A_b154 at h
    refine lv_istore (lv' := [(9, .int s0), (0, .ref x0), (1, .ref x1), (2, .ref x2), (3, .ref x3), (5, .int x5), (6, .int x6), (7, .int x7), (8, .int x8)]) hx hb dL_law_154 hl (by decide) rfl (fun ls hl => ?_)
    refine lv_iload hx hb dL_law_156 (lv_at hl 8 rfl) ?_
    refine lv_bipush (v := 8) hx hb dL_law_158 (by decide) ?_
    refine lv_icmp_ge (tgt := 168) hx hb dL_law_160 (by decide) (fun u1 => ?_) (fun u1 => ?_)
    · have h := ite_t u1 h
      refine lv_iload hx hb dL_law_168 (lv_at hl 8 rfl) ?_
      refine lv_bipush (v := 11) hx hb dL_law_170 (by decide) ?_
      refine lv_icmp_ge (tgt := 179) hx hb dL_law_172 (by decide) (fun u2 => ?_) (fun u2 => ?_)
      · have h := ite_t u2 h
        refine lv_iconst (v := 1) hx hb dL_law_179 (by decide) ?_
        refine W.widen (k := ce + 0) (n := sl + 0) (by omega) (by omega) ?_
        exact b180 _ _ _ D x5 x6 x7 x8 s0 1 hP hS (lv_sub hl [1, 2, 3, 4, 5, 6, 7, 8, 0] rfl) h
      · have h := ite_f u2 h
        refine lv_iconst (v := 5) hx hb dL_law_175 (by decide) ?_
        refine lv_goto (tgt := 180) hx hb dL_law_176 (by decide) ?_
        refine W.widen (k := ce + 0) (n := sl + 0) (by omega) (by omega) ?_
        exact b180 _ _ _ D x5 x6 x7 x8 s0 5 hP hS (lv_sub hl [1, 2, 3, 4, 5, 6, 7, 8, 0] rfl) h
    · have h := ite_f u1 h
      refine lv_bipush (v := 20) hx hb dL_law_163 (by decide) ?_
      refine lv_goto (tgt := 180) hx hb dL_law_165 (by decide) ?_
      refine W.widen (k := ce + 0) (n := sl + 0) (by omega) (by omega) ?_
      exact b180 _ _ _ D x5 x6 x7 x8 s0 20 hP hS (lv_sub hl [1, 2, 3, 4, 5, 6, 7, 8, 0] rfl) h
  have b128 : ∀ (H : Heap) (locs : List Loc) (ls : Array Slot) (D : CD) (x5 : Int32) (x6 : Int32) (x7 : Int32) (x8 : Int32), va_P G.1 vwCl (cW G S D) H → va_S (cA G S sz) s.heap H locs → lv_has ls 15 [(0, .ref x0), (1, .ref x1), (2, .ref x2), (3, .ref x3), (5, .int x5), (6, .int x6), (7, .int x7), (8, .int x8)] → f_L_law_A_b128 F S dc x0 x1 x2 x3 D x5 x6 x7 x8 = some (D2, id9, vs, us) → W p l e room_1 s m args below meth c H locs (ce + 0) (sl + 0) Q (F0 m 128 ls []) := by
    intro H locs ls D x5 x6 x7 x8 hP hS hl h
    unfold f_L_law_A_b128 at h
    refine lv_iload hx hb dL_law_128 (lv_at hl 7 rfl) ?_
    refine lv_bipush (v := 8) hx hb dL_law_130 (by decide) ?_
    refine lv_icmp_ge (tgt := 140) hx hb dL_law_132 (by decide) (fun u1 => ?_) (fun u1 => ?_)
    · have h := ite_t u1 h
      refine lv_iload hx hb dL_law_140 (lv_at hl 7 rfl) ?_
      refine lv_bipush (v := 11) hx hb dL_law_142 (by decide) ?_
      refine lv_icmp_ge (tgt := 152) hx hb dL_law_144 (by decide) (fun u2 => ?_) (fun u2 => ?_)
      · have h := ite_t u2 h
        refine lv_bipush (v := 101) hx hb dL_law_152 (by decide) ?_
        refine W.widen (k := ce + 0) (n := sl + 0) (by omega) (by omega) ?_
        exact b154 _ _ _ D x5 x6 x7 x8 101 hP hS (lv_sub hl [0, 1, 2, 3, 4, 5, 6, 7] rfl) h
      · have h := ite_f u2 h
        refine lv_bipush (v := 21) hx hb dL_law_147 (by decide) ?_
        refine lv_goto (tgt := 154) hx hb dL_law_149 (by decide) ?_
        refine W.widen (k := ce + 0) (n := sl + 0) (by omega) (by omega) ?_
        exact b154 _ _ _ D x5 x6 x7 x8 21 hP hS (lv_sub hl [0, 1, 2, 3, 4, 5, 6, 7] rfl) h
    · have h := ite_f u1 h
      refine lv_bipush (v := 6) hx hb dL_law_135 (by decide) ?_
      refine lv_goto (tgt := 154) hx hb dL_law_137 (by decide) ?_
      refine W.widen (k := ce + 0) (n := sl + 0) (by omega) (by omega) ?_
      exact b154 _ _ _ D x5 x6 x7 x8 6 hP hS (lv_sub hl [0, 1, 2, 3, 4, 5, 6, 7] rfl) h
  have b108 : ∀ (H : Heap) (locs : List Loc) (ls : Array Slot) (D : CD) (x5 : Int32) (x6 : Int32) (x7 : Int32) (x8 : Int32) (s0 : Int32) (s1 : Int32), va_P G.1 vwCl (cW G S D) H → va_S (cA G S sz) s.heap H locs → lv_has ls 15 [(0, .ref x0), (1, .ref x1), (2, .ref x2), (3, .ref x3), (5, .int x5), (6, .int x6), (7, .int x7), (8, .int x8)] → f_L_law_A_b108 F S dc x0 x1 x2 x3 D x5 x6 x7 x8 s0 s1 = some (D2, id9, vs, us) → W p l e room_1 s m args below meth c H locs (ce + 0) (sl + 0) Q (F0 m 108 ls [.int s0, .int s1]) := by
    intro H locs ls D x5 x6 x7 x8 s0 s1 hP hS hl h
    unfold f_L_law_A_b108 at h
    refine lv_icmp_ge (tgt := 128) hx hb dL_law_108 (by decide) (fun u1 => ?_) (fun u1 => ?_)
    · have h := ite_t u1 h
      refine W.widen (k := ce + 0) (n := sl + 0) (by omega) (by omega) ?_
      exact b128 _ _ _ D x5 x6 x7 x8 hP hS (lv_sub hl [0, 1, 2, 3, 4, 5, 6, 7] rfl) h
    · have h := ite_f u1 h
      cases h
      refine W.widen (k := ce + 0) (n := sl + 0) (by omega) (by omega) ?_
      exact kx1 _ _ _ x5 x6 x7 rfl rfl rfl hP hS (lv_sub hl [0, 1, 2, 3, 4, 5, 6] rfl)
  unfold f_L_law_A at h
  refine lv_iload hx hb dL_law_53 (lv_at hl 5 rfl) ?_
  refine lv_bipush (v := 45) hx hb dL_law_55 (by decide) ?_
  refine lv_icmp_ge (tgt := 524) hx hb dL_law_57 (by decide) (fun u1 => ?_) (fun u1 => ?_)
  · have h := ite_t u1 h
    cases h
    refine W.widen (k := ce + 0) (n := sl + 0) (by omega) (by omega) ?_
    exact kx0 _ _ _ x4 rfl rfl rfl hP hS (lv_sub hl [4] rfl)
  · have h := ite_f u1 h
    refine lv_iload hx hb dL_law_60 (lv_at hl 4 rfl) ?_
    refine lv_if_eq (tgt := 524) hx hb dL_law_62 (by decide) (fun u2 => ?_) (fun u2 => ?_)
    · have h := ite_t u2 h
      cases h
      refine W.widen (k := ce + 0) (n := sl + 0) (by omega) (by omega) ?_
      exact kx0 _ _ _ x4 rfl rfl rfl hP hS (lv_sub hl [4] rfl)
    · have h := ite_f u2 h
      refine lv_aload_n hx hb dL_law_65 rfl (lv_at hl 0 rfl) ?_
      refine lv_iload hx hb dL_law_66 (lv_at hl 5 rfl) ?_
      obtain ⟨z3, t4, e5, h⟩ := dcW_el h
      refine g_SD (As := [.ref x0, .int x5]) (rest := []) hC hP hS hdc z3 (va_cwS 2 hts (gSA wa_275 wa_276 wa_233 wa_138 (fun w h => h)) rfl rfl rfl (by decide +kernel) ⟨Nat.le_of_ble_eq_true rfl, Nat.le_of_ble_eq_true rfl⟩) rfl rfl hl.1 rfl (Nat.le_of_ble_eq_true rfl) dL_law_68 ⟨by omega, by omega⟩ e5 (fun H locs hP hS => ?_)
      refine lv_istore (lv' := [(6, .int t4), (0, .ref x0), (1, .ref x1), (2, .ref x2), (3, .ref x3), (4, .int x4), (5, .int x5)]) hx hb dL_law_71 hl (by decide) rfl (fun ls hl => ?_)
      refine lv_iload hx hb dL_law_73 (lv_at hl 0 rfl) ?_
      refine lv_bipush (v := 16) hx hb dL_law_75 (by decide) ?_
      refine lv_idiv hx hb dL_law_77 (by decide) ?_
      refine lv_istore (lv' := [(7, .int (t4 / 16)), (6, .int t4), (0, .ref x0), (1, .ref x1), (2, .ref x2), (3, .ref x3), (4, .int x4), (5, .int x5)]) hx hb dL_law_78 hl (by decide) rfl (fun ls hl => ?_)
      refine lv_iload hx hb dL_law_80 (lv_at hl 1 rfl) ?_
      refine lv_bipush (v := 16) hx hb dL_law_82 (by decide) ?_
      refine lv_irem hx hb dL_law_84 (by decide) ?_
      refine lv_istore (lv' := [(8, .int (t4 - t4 / 16 * 16)), (7, .int (t4 / 16)), (6, .int t4), (0, .ref x0), (1, .ref x1), (2, .ref x2), (3, .ref x3), (4, .int x4), (5, .int x5)]) hx hb dL_law_85 hl (by decide) rfl (fun ls hl => ?_)
      refine lv_aload_n hx hb dL_law_87 rfl (lv_at hl 6 rfl) ?_
      refine lv_iconst (v := 0) hx hb dL_law_88 (by decide) ?_
      obtain ⟨z6, h⟩ := ckK_el h
      obtain ⟨y8, t7, e9, h⟩ := rdI_el h
      refine g_ild hC hP z6.1 z6.2 y8 e9 dL_law_89 ?_
      refine lv_if_le (tgt := 128) hx hb dL_law_90 (by decide) (fun u10 => ?_) (fun u10 => ?_)
      · have h := ite_t u10 h
        refine W.widen (k := ce + 0) (n := sl + 0) (by omega) (by omega) ?_
        exact b128 _ _ _ D x5 t4 (t4 / 16) (t4 - t4 / 16 * 16) hP hS (lv_sub hl [3, 4, 5, 6, 8, 2, 1, 0] rfl) h
      · have h := ite_f u10 h
        refine lv_iload hx hb dL_law_93 (lv_at hl 0 rfl) ?_
        refine lv_aload_n hx hb dL_law_95 rfl (lv_at hl 6 rfl) ?_
        refine lv_iconst (v := 0) hx hb dL_law_96 (by decide) ?_
        obtain ⟨y12, t11, e13, h⟩ := rdI_el h
        refine g_ild hC hP z6.1 z6.2 y12 e13 dL_law_97 ?_
        refine lv_bipush (v := 9) hx hb dL_law_98 (by decide) ?_
        refine lv_icmp_le (tgt := 107) hx hb dL_law_100 (by decide) (fun u14 => ?_) (fun u14 => ?_)
        · have h := ite_t u14 h
          refine lv_iconst (v := 2) hx hb dL_law_107 (by decide) ?_
          refine W.widen (k := ce + 0) (n := sl + 0) (by omega) (by omega) ?_
          exact b108 _ _ _ D x5 t4 (t4 / 16) (t4 - t4 / 16 * 16) 2 (t4 - t4 / 16 * 16) hP hS (lv_sub hl [3, 4, 5, 6, 8, 2, 1, 0] rfl) h
        · have h := ite_f u14 h
          refine lv_iconst (v := 5) hx hb dL_law_103 (by decide) ?_
          refine lv_goto (tgt := 108) hx hb dL_law_104 (by decide) ?_
          refine W.widen (k := ce + 0) (n := sl + 0) (by omega) (by omega) ?_
          exact b108 _ _ _ D x5 t4 (t4 / 16) (t4 - t4 / 16 * 16) 5 (t4 - t4 / 16 * 16) hP hS (lv_sub hl [3, 4, 5, 6, 8, 2, 1, 0] rfl) h

