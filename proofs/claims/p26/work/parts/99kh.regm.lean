/-! The law in pieces: behind each step. -/
def f_L_law_B_b516 (F : Nat) (S : CS) (x0 : Nat) (x1 : Nat) (x2 : Nat) (x3 : Nat) (D : CD) (x5 : Int32) (s0 : Int32) : Option (CD × Nat × List Int32 × List Int64) := some (D, 0, [s0, x5 + 1], [])
def f_L_law_B_b476 (F : Nat) (S : CS) (x0 : Nat) (x1 : Nat) (x2 : Nat) (x3 : Nat) (D : CD) (x4 : Int32) (x5 : Int32) (x7 : Int32) : Option (CD × Nat × List Int32 × List Int64) := (if x4 = 0 then f_L_law_B_b516 F S x0 x1 x2 x3 D x5 0 else ckK S x3 8 <| rdI (S.2.2.2 x3) (D.2.2.1 x3) 0 fun t3 => (if t3 = 0 then f_L_law_B_b516 F S x0 x1 x2 x3 D x5 1 else rdI (S.2.2.2 x3) (D.2.2.1 x3) 0 fun t7 => dvI t7 <| rdI (S.2.2.2 x3) (D.2.2.1 x3) 0 fun t11 => dvI t11 <| cal (f_L_areMeeting F S D x1 x2 x3 (x7 - x7 / t7 * t7) ((x7 / 12) - (x7 / 12) / t11 * t11)) fun t16 => (if t16 = 0 then f_L_law_B_b516 F S x0 x1 x2 x3 D x5 0 else f_L_law_B_b516 F S x0 x1 x2 x3 D x5 1)))
def f_L_law_B_L422 (F : Nat) (S : CS) (x0 : Nat) (x1 : Nat) (x2 : Nat) (x3 : Nat) : Nat → CD → Int32 → Int32 → Int32 → Int32 → Option (CD × Nat × List Int32 × List Int64)
  | 0, _, _, _, _, _ => none
  | n422 + 1, D, x4, x5, x7, x9 => (if 10 ≤ x9 then f_L_law_B_b476 F S x0 x1 x2 x3 D x4 x5 x7 else (if x4 = 0 then f_L_law_B_b476 F S x0 x1 x2 x3 D x4 x5 x7 else caM (f_L_isAt F S D x1 x2 x3 (((x7 / 5) + (29 * x9)) - ((x7 / 5) + (29 * x9)) / 101 * 101) (((x7 / 500) + (43 * x9)) - ((x7 / 500) + (43 * x9)) / 101 * 101)) fun D4 t5 => (f_L_law_B_L422 F S x0 x1 x2 x3 n422) D4 t5 x5 x7 (x9 + 1)))
def f_L_law_B (F : Nat) (S : CS) (D : CD) (x0 : Nat) (x1 : Nat) (x2 : Nat) (x3 : Nat) (x4 : Int32) (x5 : Int32) (x6 : Int32) (x7 : Int32) : Option (CD × Nat × List Int32 × List Int64) := (if x4 = 0 then f_L_law_B_L422 F S x0 x1 x2 x3 F D 0 x5 x7 0 else caM (f_L_areVertices F S D x1 x2 x3) fun D3 t4 => (if t4 = 0 then f_L_law_B_L422 F S x0 x1 x2 x3 F D3 0 x5 x7 0 else caM (f_L_areEdges F S D3 x1 x2 x3) fun D7 t8 => (if t8 = 0 then f_L_law_B_L422 F S x0 x1 x2 x3 F D7 0 x5 x7 0 else caM (f_L_areFaces F S D7 x1) fun D11 t12 => (if t12 = 0 then f_L_law_B_L422 F S x0 x1 x2 x3 F D11 0 x5 x7 0 else caM (f_L_isLine F S D11 x1 x2 x3 ((x7 / 7) - (x7 / 7) / 101 * 101)) fun D15 t16 => (if t16 = 0 then f_L_law_B_L422 F S x0 x1 x2 x3 F D15 0 x5 x7 0 else caM (f_L_isLine F S D15 x1 x2 x3 (((x7 / 700) - (x7 / 700) / 6 * 6) * 20)) fun D19 t20 => (if t20 = 0 then f_L_law_B_L422 F S x0 x1 x2 x3 F D19 0 x5 x7 0 else (if 0 < (x5 - x5 / 9 * 9) then f_L_law_B_L422 F S x0 x1 x2 x3 F D19 1 x5 x7 0 else caM (f_L_isRefused F S D19 x1 x3 (x6 / 3)) fun D24 t25 => (if t25 = 0 then f_L_law_B_L422 F S x0 x1 x2 x3 F D24 0 x5 x7 0 else f_L_law_B_L422 F S x0 x1 x2 x3 F D24 1 x5 x7 0))))))))
set_option maxRecDepth 100000 in
set_option maxHeartbeats 4000000 in
theorem r_L_law_B {p : Program} {l : Launch} {e : Env} {s : State} {m : MethodId} {args : Array Value} {below : List Frame} {meth : Method} {c : Code} {Q : State → Prop} {G : cG} {S : CS} {z9 : Nat × Nat} {sz ce sl : Nat} {k0 : Cond} (hfl : l.stackTraces = false) (F : Nat) (x0 : Nat) (x1 : Nat) (x2 : Nat) (x3 : Nat) (hC : cC RL p s m args meth c (k0 :: WA) code 15 ret G S sz) (hv : lPr z9 (cA G S sz) s) (hce : ce + 25 ≤ 600104) (hsl : sl + 150 ≤ 7301314) (D D2 : CD) (x4 : Int32) (x5 : Int32) (x6 : Int32) (x7 : Int32) (id9 : Nat) (vs : List Int32) (us : List Int64) {H : Heap} {locs : List Loc} {ls : Array Slot} (hP : va_P G.1 vwCl (cW G S D) H) (hS : va_S (cA G S sz) s.heap H locs) (hl : lv_has ls 15 [(0, .ref x0), (1, .ref x1), (2, .ref x2), (3, .ref x3), (4, .int x4), (5, .int x5), (6, .int x6), (7, .int x7)]) (h : f_L_law_B F S D x0 x1 x2 x3 x4 x5 x6 x7 = some (D2, id9, vs, us))
    (kx0 : ∀ (H : Heap) (locs : List Loc) (ls : Array Slot) (x4 : Int32) (x5 : Int32), id9 = 0 → vs = [x4, x5] → us = [] → va_P G.1 vwCl (cW G S D2) H → va_S (cA G S sz) s.heap H locs → lv_has ls 15 [(0, .ref x0), (1, .ref x1), (2, .ref x2), (3, .ref x3), (4, .int x4), (5, .int x5)] → W p l e room_1 s m args below meth c H locs (ce + 25) (sl + 150) Q (F0 m 53 ls [])) : W p l e room_1 s m args below meth c H locs ce sl Q (F0 m 324 ls []) := by
  have hC0 := hC
  obtain ⟨hx, hb, -, hts, hown, -, hml, -, -, -⟩ := hC0
  have hce : ce + 25 ≤ (room_1).cells := hce
  have hsl : sl + 150 ≤ (room_1).slots := hsl
  have b516 : ∀ (H : Heap) (locs : List Loc) (ls : Array Slot) (D : CD) (x5 : Int32) (s0 : Int32), va_P G.1 vwCl (cW G S D) H → va_S (cA G S sz) s.heap H locs → lv_has ls 15 [(0, .ref x0), (1, .ref x1), (2, .ref x2), (3, .ref x3), (5, .int x5)] → f_L_law_B_b516 F S x0 x1 x2 x3 D x5 s0 = some (D2, id9, vs, us) → W p l e room_1 s m args below meth c H locs (ce + 25) (sl + 150) Q (F0 m 516 ls [.int s0]) := by
    intro H locs ls D x5 s0 hP hS hl h
    unfold f_L_law_B_b516 at h
    refine lv_istore (lv' := [(4, .int s0), (0, .ref x0), (1, .ref x1), (2, .ref x2), (3, .ref x3), (5, .int x5)]) hx hb dL_law_516 hl (by decide) rfl (fun ls hl => ?_)
    refine lv_iinc (v := x5 + 1) (lv' := [(5, .int (x5 + 1)), (4, .int s0), (0, .ref x0), (1, .ref x1), (2, .ref x2), (3, .ref x3)]) hx hb dL_law_518 hl (k := 5) rfl rfl (by decide) rfl (fun ls hl => ?_)
    refine lv_goto (tgt := 53) hx hb dL_law_521 (by decide) ?_
    cases h
    refine W.widen (k := ce + 25) (n := sl + 150) (by omega) (by omega) ?_
    exact kx0 _ _ _ s0 (x5 + 1) rfl rfl rfl hP hS (lv_sub hl [2, 3, 4, 5, 1, 0] rfl)
  have b476 : ∀ (H : Heap) (locs : List Loc) (ls : Array Slot) (D : CD) (x4 : Int32) (x5 : Int32) (x7 : Int32), va_P G.1 vwCl (cW G S D) H → va_S (cA G S sz) s.heap H locs → lv_has ls 15 [(0, .ref x0), (1, .ref x1), (2, .ref x2), (3, .ref x3), (4, .int x4), (5, .int x5), (7, .int x7)] → f_L_law_B_b476 F S x0 x1 x2 x3 D x4 x5 x7 = some (D2, id9, vs, us) → W p l e room_1 s m args below meth c H locs (ce + 25) (sl + 150) Q (F0 m 476 ls []) := by
    intro H locs ls D x4 x5 x7 hP hS hl h
    unfold f_L_law_B_b476 at h
    refine lv_iload hx hb dL_law_476 (lv_at hl 4 rfl) ?_
    refine lv_if_eq (tgt := 515) hx hb dL_law_478 (by decide) (fun u1 => ?_) (fun u1 => ?_)
    · have h := ite_t u1 h
      refine lv_iconst (v := 0) hx hb dL_law_515 (by decide) ?_
      refine W.widen (k := ce + 25) (n := sl + 150) (by omega) (by omega) ?_
      exact b516 _ _ _ D x5 0 hP hS (lv_sub hl [0, 1, 2, 3, 5] rfl) h
    · have h := ite_f u1 h
      refine lv_aload_n hx hb dL_law_481 rfl (lv_at hl 3 rfl) ?_
      refine lv_iconst (v := 0) hx hb dL_law_482 (by decide) ?_
      obtain ⟨z2, h⟩ := ckK_el h
      obtain ⟨y4, t3, e5, h⟩ := rdI_el h
      refine g_ild hC hP z2.1 z2.2 y4 e5 dL_law_483 ?_
      refine lv_if_eq (tgt := 511) hx hb dL_law_484 (by decide) (fun u6 => ?_) (fun u6 => ?_)
      · have h := ite_t u6 h
        refine lv_iconst (v := 1) hx hb dL_law_511 (by decide) ?_
        refine lv_goto (tgt := 516) hx hb dL_law_512 (by decide) ?_
        refine W.widen (k := ce + 25) (n := sl + 150) (by omega) (by omega) ?_
        exact b516 _ _ _ D x5 1 hP hS (lv_sub hl [0, 1, 2, 3, 5] rfl) h
      · have h := ite_f u6 h
        refine lv_aload_n hx hb dL_law_487 rfl (lv_at hl 1 rfl) ?_
        refine lv_aload_n hx hb dL_law_488 rfl (lv_at hl 2 rfl) ?_
        refine lv_aload_n hx hb dL_law_489 rfl (lv_at hl 3 rfl) ?_
        refine lv_iload hx hb dL_law_490 (lv_at hl 6 rfl) ?_
        refine lv_aload_n hx hb dL_law_492 rfl (lv_at hl 3 rfl) ?_
        refine lv_iconst (v := 0) hx hb dL_law_493 (by decide) ?_
        obtain ⟨y8, t7, e9, h⟩ := rdI_el h
        refine g_ild hC hP z2.1 z2.2 y8 e9 dL_law_494 ?_
        obtain ⟨z10, h⟩ := dvI_el h
        refine lv_irem hx hb dL_law_495 z10 ?_
        refine lv_iload hx hb dL_law_496 (lv_at hl 6 rfl) ?_
        refine lv_bipush (v := 12) hx hb dL_law_498 (by decide) ?_
        refine lv_idiv hx hb dL_law_500 (by decide) ?_
        refine lv_aload_n hx hb dL_law_501 rfl (lv_at hl 3 rfl) ?_
        refine lv_iconst (v := 0) hx hb dL_law_502 (by decide) ?_
        obtain ⟨y12, t11, e13, h⟩ := rdI_el h
        refine g_ild hC hP z2.1 z2.2 y12 e13 dL_law_503 ?_
        obtain ⟨z14, h⟩ := dvI_el h
        refine lv_irem hx hb dL_law_504 z14 ?_
        obtain ⟨t16, e15, h⟩ := cal_el h
        refine g_SI (As := [.ref x1, .ref x2, .ref x3, .int (x7 - x7 / t7 * t7), .int ((x7 / 12) - (x7 / 12) / t11 * t11)]) (rest := []) hC hP hS (m_L_areMeeting l G F S D x1 x2 x3 (x7 - x7 / t7 * t7) ((x7 / 12) - (x7 / 12) / t11 * t11) t16 e15) (va_cwS 5 hts (gSA wa_291 wa_292 wa_233 wa_259 (fun w h => h)) rfl rfl rfl (by decide +kernel) ⟨Nat.le_of_ble_eq_true rfl, Nat.le_of_ble_eq_true rfl⟩) rfl hl.1 rfl (Nat.le_of_ble_eq_true rfl) dL_law_505 ⟨by omega, by omega⟩ (fun H locs hP hS => ?_)
        refine lv_if_eq (tgt := 515) hx hb dL_law_508 (by decide) (fun u17 => ?_) (fun u17 => ?_)
        · have h := ite_t u17 h
          refine lv_iconst (v := 0) hx hb dL_law_515 (by decide) ?_
          refine W.widen (k := ce + 25) (n := sl + 150) (by omega) (by omega) ?_
          exact b516 _ _ _ D x5 0 hP hS (lv_sub hl [0, 1, 2, 3, 5] rfl) h
        · have h := ite_f u17 h
          refine lv_iconst (v := 1) hx hb dL_law_511 (by decide) ?_
          refine lv_goto (tgt := 516) hx hb dL_law_512 (by decide) ?_
          refine W.widen (k := ce + 25) (n := sl + 150) (by omega) (by omega) ?_
          exact b516 _ _ _ D x5 1 hP hS (lv_sub hl [0, 1, 2, 3, 5] rfl) h
  have L422 : ∀ (n422 : Nat) (H : Heap) (locs : List Loc) (ls : Array Slot) (D : CD) (x4 : Int32) (x5 : Int32) (x7 : Int32) (x9 : Int32), va_P G.1 vwCl (cW G S D) H → va_S (cA G S sz) s.heap H locs → lv_has ls 15 [(0, .ref x0), (1, .ref x1), (2, .ref x2), (3, .ref x3), (4, .int x4), (5, .int x5), (7, .int x7), (9, .int x9)] → f_L_law_B_L422 F S x0 x1 x2 x3 n422 D x4 x5 x7 x9 = some (D2, id9, vs, us) → W p l e room_1 s m args below meth c H locs (ce + 25) (sl + 150) Q (F0 m 422 ls []) := by
    intro n422
    induction n422 with
    | zero =>
      intro H locs ls D x4 x5 x7 x9 hP hS hl h
      rw [f_L_law_B_L422] at h; cases h
    | succ n422 ih422 =>
      intro H locs ls D x4 x5 x7 x9 hP hS hl h
      rw [f_L_law_B_L422] at h
      refine lv_iload hx hb dL_law_422 (lv_at hl 7 rfl) ?_
      refine lv_bipush (v := 10) hx hb dL_law_424 (by decide) ?_
      refine lv_icmp_ge (tgt := 476) hx hb dL_law_426 (by decide) (fun u1 => ?_) (fun u1 => ?_)
      · have h := ite_t u1 h
        refine W.widen (k := ce + 25) (n := sl + 150) (by omega) (by omega) ?_
        exact b476 _ _ _ D x4 x5 x7 hP hS (lv_sub hl [0, 1, 2, 3, 4, 5, 6] rfl) h
      · have h := ite_f u1 h
        refine lv_iload hx hb dL_law_429 (lv_at hl 4 rfl) ?_
        refine lv_if_eq (tgt := 476) hx hb dL_law_431 (by decide) (fun u2 => ?_) (fun u2 => ?_)
        · have h := ite_t u2 h
          refine W.widen (k := ce + 25) (n := sl + 150) (by omega) (by omega) ?_
          exact b476 _ _ _ D x4 x5 x7 hP hS (lv_sub hl [0, 1, 2, 3, 4, 5, 6] rfl) h
        · have h := ite_f u2 h
          refine lv_aload_n hx hb dL_law_434 rfl (lv_at hl 1 rfl) ?_
          refine lv_aload_n hx hb dL_law_435 rfl (lv_at hl 2 rfl) ?_
          refine lv_aload_n hx hb dL_law_436 rfl (lv_at hl 3 rfl) ?_
          refine lv_iload hx hb dL_law_437 (lv_at hl 6 rfl) ?_
          refine lv_iconst (v := 5) hx hb dL_law_439 (by decide) ?_
          refine lv_idiv hx hb dL_law_440 (by decide) ?_
          refine lv_bipush (v := 29) hx hb dL_law_441 (by decide) ?_
          refine lv_iload hx hb dL_law_443 (lv_at hl 7 rfl) ?_
          refine lv_imul hx hb dL_law_445 ?_
          refine lv_iadd hx hb dL_law_446 ?_
          refine lv_bipush (v := 101) hx hb dL_law_447 (by decide) ?_
          refine lv_irem hx hb dL_law_449 (by decide) ?_
          refine lv_iload hx hb dL_law_450 (lv_at hl 6 rfl) ?_
          refine lv_sipush (v := 500) hx hb dL_law_452 (by decide) ?_
          refine lv_idiv hx hb dL_law_455 (by decide) ?_
          refine lv_bipush (v := 43) hx hb dL_law_456 (by decide) ?_
          refine lv_iload hx hb dL_law_458 (lv_at hl 7 rfl) ?_
          refine lv_imul hx hb dL_law_460 ?_
          refine lv_iadd hx hb dL_law_461 ?_
          refine lv_bipush (v := 101) hx hb dL_law_462 (by decide) ?_
          refine lv_irem hx hb dL_law_464 (by decide) ?_
          obtain ⟨D4, t5, e3, h⟩ := caM_el h
          refine g_SI (As := [.ref x1, .ref x2, .ref x3, .int (((x7 / 5) + (29 * x9)) - ((x7 / 5) + (29 * x9)) / 101 * 101), .int (((x7 / 500) + (43 * x9)) - ((x7 / 500) + (43 * x9)) / 101 * 101)]) (rest := []) hC hP hS (m_L_isAt l G F S D D4 x1 x2 x3 (((x7 / 5) + (29 * x9)) - ((x7 / 5) + (29 * x9)) / 101 * 101) (((x7 / 500) + (43 * x9)) - ((x7 / 500) + (43 * x9)) / 101 * 101) t5 e3) (va_cwS 5 hts (gSA wa_289 wa_290 wa_233 wa_252 (fun w h => h)) rfl rfl rfl (by decide +kernel) ⟨Nat.le_of_ble_eq_true rfl, Nat.le_of_ble_eq_true rfl⟩) rfl hl.1 rfl (Nat.le_of_ble_eq_true rfl) dL_law_465 ⟨by omega, by omega⟩ (fun H locs hP hS => ?_)
          refine lv_istore (lv' := [(4, .int t5), (0, .ref x0), (1, .ref x1), (2, .ref x2), (3, .ref x3), (5, .int x5), (7, .int x7), (9, .int x9)]) hx hb dL_law_468 hl (by decide) rfl (fun ls hl => ?_)
          refine lv_iinc (v := x9 + 1) (lv' := [(9, .int (x9 + 1)), (4, .int t5), (0, .ref x0), (1, .ref x1), (2, .ref x2), (3, .ref x3), (5, .int x5), (7, .int x7)]) hx hb dL_law_470 hl (k := 7) rfl rfl (by decide) rfl (fun ls hl => ?_)
          refine lv_goto (tgt := 422) hx hb dL_law_473 (by decide) ?_
          refine W.widen (k := ce + 25) (n := sl + 150) (by omega) (by omega) ?_
          exact ih422 _ _ _ D4 t5 x5 x7 (x9 + 1) hP hS (lv_sub hl [2, 3, 4, 5, 1, 6, 7, 0] rfl) h
  unfold f_L_law_B at h
  refine lv_iload hx hb dL_law_324 (lv_at hl 4 rfl) ?_
  refine lv_if_eq (tgt := 416) hx hb dL_law_326 (by decide) (fun u1 => ?_) (fun u1 => ?_)
  · have h := ite_t u1 h
    refine lv_iconst (v := 0) hx hb dL_law_416 (by decide) ?_
    refine lv_istore (lv' := [(4, .int 0), (0, .ref x0), (1, .ref x1), (2, .ref x2), (3, .ref x3), (5, .int x5), (6, .int x6), (7, .int x7)]) hx hb dL_law_417 hl (by decide) rfl (fun ls hl => ?_)
    refine lv_iconst (v := 0) hx hb dL_law_419 (by decide) ?_
    refine lv_istore (lv' := [(9, .int 0), (4, .int 0), (0, .ref x0), (1, .ref x1), (2, .ref x2), (3, .ref x3), (5, .int x5), (6, .int x6), (7, .int x7)]) hx hb dL_law_420 hl (by decide) rfl (fun ls hl => ?_)
    refine W.widen (k := ce + 25) (n := sl + 150) (by omega) (by omega) ?_
    exact L422 F _ _ _ D 0 x5 x7 0 hP hS (lv_sub hl [2, 3, 4, 5, 1, 6, 8, 0] rfl) h
  · have h := ite_f u1 h
    refine lv_aload_n hx hb dL_law_329 rfl (lv_at hl 1 rfl) ?_
    refine lv_aload_n hx hb dL_law_330 rfl (lv_at hl 2 rfl) ?_
    refine lv_aload_n hx hb dL_law_331 rfl (lv_at hl 3 rfl) ?_
    obtain ⟨D3, t4, e2, h⟩ := caM_el h
    refine g_SB (As := [.ref x1, .ref x2, .ref x3]) (rest := []) (mc := 2) (ms := 12) hC hv hP hS (m_L_areVertices l hfl G F S z9 D D3 x1 x2 x3 t4 e2) (va_cwS 3 hts (gSA wa_281 wa_282 wa_233 wa_236 (fun w h => h)) rfl rfl rfl (by decide +kernel) ⟨Nat.le_of_ble_eq_true rfl, Nat.le_of_ble_eq_true rfl⟩) rfl hl.1 rfl (Nat.le_of_ble_eq_true rfl) dL_law_332 ⟨by omega, by omega⟩ (fun H locs hP hS => ?_)
    refine lv_if_eq (tgt := 416) hx hb dL_law_335 (by decide) (fun u5 => ?_) (fun u5 => ?_)
    · have h := ite_t u5 h
      refine lv_iconst (v := 0) hx hb dL_law_416 (by decide) ?_
      refine lv_istore (lv' := [(4, .int 0), (0, .ref x0), (1, .ref x1), (2, .ref x2), (3, .ref x3), (5, .int x5), (6, .int x6), (7, .int x7)]) hx hb dL_law_417 hl (by decide) rfl (fun ls hl => ?_)
      refine lv_iconst (v := 0) hx hb dL_law_419 (by decide) ?_
      refine lv_istore (lv' := [(9, .int 0), (4, .int 0), (0, .ref x0), (1, .ref x1), (2, .ref x2), (3, .ref x3), (5, .int x5), (6, .int x6), (7, .int x7)]) hx hb dL_law_420 hl (by decide) rfl (fun ls hl => ?_)
      refine W.widen (k := ce + 25) (n := sl + 150) (by omega) (by omega) ?_
      exact L422 F _ _ _ D3 0 x5 x7 0 hP hS (lv_sub hl [2, 3, 4, 5, 1, 6, 8, 0] rfl) h
    · have h := ite_f u5 h
      refine lv_aload_n hx hb dL_law_338 rfl (lv_at hl 1 rfl) ?_
      refine lv_aload_n hx hb dL_law_339 rfl (lv_at hl 2 rfl) ?_
      refine lv_aload_n hx hb dL_law_340 rfl (lv_at hl 3 rfl) ?_
      obtain ⟨D7, t8, e6, h⟩ := caM_el h
      refine g_SB (As := [.ref x1, .ref x2, .ref x3]) (rest := []) (mc := 2) (ms := 12) hC hv hP hS (m_L_areEdges l hfl G F S z9 D3 D7 x1 x2 x3 t8 e6) (va_cwS 3 hts (gSA wa_283 wa_284 wa_233 wa_244 (fun w h => h)) rfl rfl rfl (by decide +kernel) ⟨Nat.le_of_ble_eq_true rfl, Nat.le_of_ble_eq_true rfl⟩) rfl hl.1 rfl (Nat.le_of_ble_eq_true rfl) dL_law_341 ⟨by omega, by omega⟩ (fun H locs hP hS => ?_)
      refine lv_if_eq (tgt := 416) hx hb dL_law_344 (by decide) (fun u9 => ?_) (fun u9 => ?_)
      · have h := ite_t u9 h
        refine lv_iconst (v := 0) hx hb dL_law_416 (by decide) ?_
        refine lv_istore (lv' := [(4, .int 0), (0, .ref x0), (1, .ref x1), (2, .ref x2), (3, .ref x3), (5, .int x5), (6, .int x6), (7, .int x7)]) hx hb dL_law_417 hl (by decide) rfl (fun ls hl => ?_)
        refine lv_iconst (v := 0) hx hb dL_law_419 (by decide) ?_
        refine lv_istore (lv' := [(9, .int 0), (4, .int 0), (0, .ref x0), (1, .ref x1), (2, .ref x2), (3, .ref x3), (5, .int x5), (6, .int x6), (7, .int x7)]) hx hb dL_law_420 hl (by decide) rfl (fun ls hl => ?_)
        refine W.widen (k := ce + 25) (n := sl + 150) (by omega) (by omega) ?_
        exact L422 F _ _ _ D7 0 x5 x7 0 hP hS (lv_sub hl [2, 3, 4, 5, 1, 6, 8, 0] rfl) h
      · have h := ite_f u9 h
        refine lv_aload_n hx hb dL_law_347 rfl (lv_at hl 1 rfl) ?_
        obtain ⟨D11, t12, e10, h⟩ := caM_el h
        refine g_SB (As := [.ref x1]) (rest := []) (mc := 3) (ms := 18) hC hv hP hS (m_L_areFaces l hfl G F S z9 D7 D11 x1 t12 e10) (va_cwS 1 hts (gSA wa_285 wa_286 wa_233 wa_247 (fun w h => h)) rfl rfl rfl (by decide +kernel) ⟨Nat.le_of_ble_eq_true rfl, Nat.le_of_ble_eq_true rfl⟩) rfl hl.1 rfl (Nat.le_of_ble_eq_true rfl) dL_law_348 ⟨by omega, by omega⟩ (fun H locs hP hS => ?_)
        refine lv_if_eq (tgt := 416) hx hb dL_law_351 (by decide) (fun u13 => ?_) (fun u13 => ?_)
        · have h := ite_t u13 h
          refine lv_iconst (v := 0) hx hb dL_law_416 (by decide) ?_
          refine lv_istore (lv' := [(4, .int 0), (0, .ref x0), (1, .ref x1), (2, .ref x2), (3, .ref x3), (5, .int x5), (6, .int x6), (7, .int x7)]) hx hb dL_law_417 hl (by decide) rfl (fun ls hl => ?_)
          refine lv_iconst (v := 0) hx hb dL_law_419 (by decide) ?_
          refine lv_istore (lv' := [(9, .int 0), (4, .int 0), (0, .ref x0), (1, .ref x1), (2, .ref x2), (3, .ref x3), (5, .int x5), (6, .int x6), (7, .int x7)]) hx hb dL_law_420 hl (by decide) rfl (fun ls hl => ?_)
          refine W.widen (k := ce + 25) (n := sl + 150) (by omega) (by omega) ?_
          exact L422 F _ _ _ D11 0 x5 x7 0 hP hS (lv_sub hl [2, 3, 4, 5, 1, 6, 8, 0] rfl) h
        · have h := ite_f u13 h
          refine lv_aload_n hx hb dL_law_354 rfl (lv_at hl 1 rfl) ?_
          refine lv_aload_n hx hb dL_law_355 rfl (lv_at hl 2 rfl) ?_
          refine lv_aload_n hx hb dL_law_356 rfl (lv_at hl 3 rfl) ?_
          refine lv_iload hx hb dL_law_357 (lv_at hl 7 rfl) ?_
          refine lv_bipush (v := 7) hx hb dL_law_359 (by decide) ?_
          refine lv_idiv hx hb dL_law_361 (by decide) ?_
          refine lv_bipush (v := 101) hx hb dL_law_362 (by decide) ?_
          refine lv_irem hx hb dL_law_364 (by decide) ?_
          obtain ⟨D15, t16, e14, h⟩ := caM_el h
          refine g_SB (As := [.ref x1, .ref x2, .ref x3, .int ((x7 / 7) - (x7 / 7) / 101 * 101)]) (rest := []) (mc := 2) (ms := 12) hC hv hP hS (m_L_isLine l hfl G F S z9 D11 D15 x1 x2 x3 ((x7 / 7) - (x7 / 7) / 101 * 101) t16 e14) (va_cwS 4 hts (gSA wa_287 wa_288 wa_233 wa_255 (fun w h => h)) rfl rfl rfl (by decide +kernel) ⟨Nat.le_of_ble_eq_true rfl, Nat.le_of_ble_eq_true rfl⟩) rfl hl.1 rfl (Nat.le_of_ble_eq_true rfl) dL_law_365 ⟨by omega, by omega⟩ (fun H locs hP hS => ?_)
          refine lv_if_eq (tgt := 416) hx hb dL_law_368 (by decide) (fun u17 => ?_) (fun u17 => ?_)
          · have h := ite_t u17 h
            refine lv_iconst (v := 0) hx hb dL_law_416 (by decide) ?_
            refine lv_istore (lv' := [(4, .int 0), (0, .ref x0), (1, .ref x1), (2, .ref x2), (3, .ref x3), (5, .int x5), (6, .int x6), (7, .int x7)]) hx hb dL_law_417 hl (by decide) rfl (fun ls hl => ?_)
            refine lv_iconst (v := 0) hx hb dL_law_419 (by decide) ?_
            refine lv_istore (lv' := [(9, .int 0), (4, .int 0), (0, .ref x0), (1, .ref x1), (2, .ref x2), (3, .ref x3), (5, .int x5), (6, .int x6), (7, .int x7)]) hx hb dL_law_420 hl (by decide) rfl (fun ls hl => ?_)
            refine W.widen (k := ce + 25) (n := sl + 150) (by omega) (by omega) ?_
            exact L422 F _ _ _ D15 0 x5 x7 0 hP hS (lv_sub hl [2, 3, 4, 5, 1, 6, 8, 0] rfl) h
          · have h := ite_f u17 h
            refine lv_aload_n hx hb dL_law_371 rfl (lv_at hl 1 rfl) ?_
            refine lv_aload_n hx hb dL_law_372 rfl (lv_at hl 2 rfl) ?_
            refine lv_aload_n hx hb dL_law_373 rfl (lv_at hl 3 rfl) ?_
            refine lv_iload hx hb dL_law_374 (lv_at hl 7 rfl) ?_
            refine lv_sipush (v := 700) hx hb dL_law_376 (by decide) ?_
            refine lv_idiv hx hb dL_law_379 (by decide) ?_
            refine lv_bipush (v := 6) hx hb dL_law_380 (by decide) ?_
            refine lv_irem hx hb dL_law_382 (by decide) ?_
            refine lv_bipush (v := 20) hx hb dL_law_383 (by decide) ?_
            refine lv_imul hx hb dL_law_385 ?_
            obtain ⟨D19, t20, e18, h⟩ := caM_el h
            refine g_SB (As := [.ref x1, .ref x2, .ref x3, .int (((x7 / 700) - (x7 / 700) / 6 * 6) * 20)]) (rest := []) (mc := 2) (ms := 12) hC hv hP hS (m_L_isLine l hfl G F S z9 D15 D19 x1 x2 x3 (((x7 / 700) - (x7 / 700) / 6 * 6) * 20) t20 e18) (va_cwS 4 hts (gSA wa_287 wa_288 wa_233 wa_255 (fun w h => h)) rfl rfl rfl (by decide +kernel) ⟨Nat.le_of_ble_eq_true rfl, Nat.le_of_ble_eq_true rfl⟩) rfl hl.1 rfl (Nat.le_of_ble_eq_true rfl) dL_law_386 ⟨by omega, by omega⟩ (fun H locs hP hS => ?_)
            refine lv_if_eq (tgt := 416) hx hb dL_law_389 (by decide) (fun u21 => ?_) (fun u21 => ?_)
            · have h := ite_t u21 h
              refine lv_iconst (v := 0) hx hb dL_law_416 (by decide) ?_
              refine lv_istore (lv' := [(4, .int 0), (0, .ref x0), (1, .ref x1), (2, .ref x2), (3, .ref x3), (5, .int x5), (6, .int x6), (7, .int x7)]) hx hb dL_law_417 hl (by decide) rfl (fun ls hl => ?_)
              refine lv_iconst (v := 0) hx hb dL_law_419 (by decide) ?_
              refine lv_istore (lv' := [(9, .int 0), (4, .int 0), (0, .ref x0), (1, .ref x1), (2, .ref x2), (3, .ref x3), (5, .int x5), (6, .int x6), (7, .int x7)]) hx hb dL_law_420 hl (by decide) rfl (fun ls hl => ?_)
              refine W.widen (k := ce + 25) (n := sl + 150) (by omega) (by omega) ?_
              exact L422 F _ _ _ D19 0 x5 x7 0 hP hS (lv_sub hl [2, 3, 4, 5, 1, 6, 8, 0] rfl) h
            · have h := ite_f u21 h
              refine lv_iload hx hb dL_law_392 (lv_at hl 5 rfl) ?_
              refine lv_bipush (v := 9) hx hb dL_law_394 (by decide) ?_
              refine lv_irem hx hb dL_law_396 (by decide) ?_
              refine lv_if_gt (tgt := 412) hx hb dL_law_397 (by decide) (fun u22 => ?_) (fun u22 => ?_)
              · have h := ite_t u22 h
                refine lv_iconst (v := 1) hx hb dL_law_412 (by decide) ?_
                refine lv_goto (tgt := 417) hx hb dL_law_413 (by decide) ?_
                refine lv_istore (lv' := [(4, .int 1), (0, .ref x0), (1, .ref x1), (2, .ref x2), (3, .ref x3), (5, .int x5), (6, .int x6), (7, .int x7)]) hx hb dL_law_417 hl (by decide) rfl (fun ls hl => ?_)
                refine lv_iconst (v := 0) hx hb dL_law_419 (by decide) ?_
                refine lv_istore (lv' := [(9, .int 0), (4, .int 1), (0, .ref x0), (1, .ref x1), (2, .ref x2), (3, .ref x3), (5, .int x5), (6, .int x6), (7, .int x7)]) hx hb dL_law_420 hl (by decide) rfl (fun ls hl => ?_)
                refine W.widen (k := ce + 25) (n := sl + 150) (by omega) (by omega) ?_
                exact L422 F _ _ _ D19 1 x5 x7 0 hP hS (lv_sub hl [2, 3, 4, 5, 1, 6, 8, 0] rfl) h
              · have h := ite_f u22 h
                refine lv_aload_n hx hb dL_law_400 rfl (lv_at hl 1 rfl) ?_
                refine lv_aload_n hx hb dL_law_401 rfl (lv_at hl 3 rfl) ?_
                refine lv_iload hx hb dL_law_402 (lv_at hl 6 rfl) ?_
                refine lv_iconst (v := 3) hx hb dL_law_404 (by decide) ?_
                refine lv_idiv hx hb dL_law_405 (by decide) ?_
                obtain ⟨D24, t25, e23, h⟩ := caM_el h
                refine g_SB (As := [.ref x1, .ref x3, .int (x6 / 3)]) (rest := []) (mc := 14) (ms := 84) hC hv hP hS (m_L_isRefused l hfl G F S z9 D19 D24 x1 x3 (x6 / 3) t25 e23) (va_cwS 3 hts (gSA wa_273 wa_274 wa_233 wa_262 (fun w h => h)) rfl rfl rfl (by decide +kernel) ⟨Nat.le_of_ble_eq_true rfl, Nat.le_of_ble_eq_true rfl⟩) rfl hl.1 rfl (Nat.le_of_ble_eq_true rfl) dL_law_406 ⟨by omega, by omega⟩ (fun H locs hP hS => ?_)
                refine lv_if_eq (tgt := 416) hx hb dL_law_409 (by decide) (fun u26 => ?_) (fun u26 => ?_)
                · have h := ite_t u26 h
                  refine lv_iconst (v := 0) hx hb dL_law_416 (by decide) ?_
                  refine lv_istore (lv' := [(4, .int 0), (0, .ref x0), (1, .ref x1), (2, .ref x2), (3, .ref x3), (5, .int x5), (6, .int x6), (7, .int x7)]) hx hb dL_law_417 hl (by decide) rfl (fun ls hl => ?_)
                  refine lv_iconst (v := 0) hx hb dL_law_419 (by decide) ?_
                  refine lv_istore (lv' := [(9, .int 0), (4, .int 0), (0, .ref x0), (1, .ref x1), (2, .ref x2), (3, .ref x3), (5, .int x5), (6, .int x6), (7, .int x7)]) hx hb dL_law_420 hl (by decide) rfl (fun ls hl => ?_)
                  refine W.widen (k := ce + 25) (n := sl + 150) (by omega) (by omega) ?_
                  exact L422 F _ _ _ D24 0 x5 x7 0 hP hS (lv_sub hl [2, 3, 4, 5, 1, 6, 8, 0] rfl) h
                · have h := ite_f u26 h
                  refine lv_iconst (v := 1) hx hb dL_law_412 (by decide) ?_
                  refine lv_goto (tgt := 417) hx hb dL_law_413 (by decide) ?_
                  refine lv_istore (lv' := [(4, .int 1), (0, .ref x0), (1, .ref x1), (2, .ref x2), (3, .ref x3), (5, .int x5), (6, .int x6), (7, .int x7)]) hx hb dL_law_417 hl (by decide) rfl (fun ls hl => ?_)
                  refine lv_iconst (v := 0) hx hb dL_law_419 (by decide) ?_
                  refine lv_istore (lv' := [(9, .int 0), (4, .int 1), (0, .ref x0), (1, .ref x1), (2, .ref x2), (3, .ref x3), (5, .int x5), (6, .int x6), (7, .int x7)]) hx hb dL_law_420 hl (by decide) rfl (fun ls hl => ?_)
                  refine W.widen (k := ce + 25) (n := sl + 150) (by omega) (by omega) ?_
                  exact L422 F _ _ _ D24 1 x5 x7 0 hP hS (lv_sub hl [2, 3, 4, 5, 1, 6, 8, 0] rfl) h

