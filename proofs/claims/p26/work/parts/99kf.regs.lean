/-! isAdded and isRemoved, ahead of what makes the pool grow and behind it. -/
def f_L_isAdded_A_b42 (F : Nat) (S : CS) (x0 : Nat) (x1 : Nat) (x2 : Nat) (D : CD) (x3 : Int32) (x4 : Int32) (x5 : Int32) (x6 : Int32) (x7 : Int32) (s0 : Int32) : Option (CD × Nat × List Int32 × List Int64) := cal (f_L_all F S D x0) fun t2 => some (D, 0, [x3, x4, x5, x6, x7, s0], [t2])
def f_L_isAdded_A_b24 (F : Nat) (S : CS) (x0 : Nat) (x1 : Nat) (x2 : Nat) (D : CD) (x3 : Int32) (x4 : Int32) (x5 : Int32) (x6 : Int32) (s0 : Int32) : Option (CD × Nat × List Int32 × List Int64) := ckK S x2 8 <| rdI (S.2.2.2 x2) (D.2.2.1 x2) 0 fun t2 => (if 12 ≤ t2 then f_L_isAdded_A_b42 F S x0 x1 x2 D x3 x4 x5 x6 s0 12 else rdI (S.2.2.2 x2) (D.2.2.1 x2) 0 fun t6 => f_L_isAdded_A_b42 F S x0 x1 x2 D x3 x4 x5 x6 s0 t6)
def f_L_isAdded_A (F : Nat) (S : CS) (D : CD) (x0 : Nat) (x1 : Nat) (x2 : Nat) (x3 : Int32) (x4 : Int32) (x5 : Int32) (x6 : Int32) : Option (CD × Nat × List Int32 × List Int64) := (if x3 < x5 then f_L_isAdded_A_b24 F S x0 x1 x2 D x3 x4 x5 x6 1 else (if x3 = x5 then (if x6 ≤ x4 then f_L_isAdded_A_b24 F S x0 x1 x2 D x3 x4 x5 x6 0 else f_L_isAdded_A_b24 F S x0 x1 x2 D x3 x4 x5 x6 1) else f_L_isAdded_A_b24 F S x0 x1 x2 D x3 x4 x5 x6 0))
set_option maxRecDepth 100000 in
set_option maxHeartbeats 4000000 in
theorem r_L_isAdded_A {p : Program} {l : Launch} {e : Env} {s : State} {m : MethodId} {args : Array Value} {below : List Frame} {meth : Method} {c : Code} {Q : State → Prop} {G : cG} {S : CS} {z9 : Nat × Nat} {sz ce sl : Nat} {k0 : Cond} (hfl : l.stackTraces = false) (F : Nat) (x0 : Nat) (x1 : Nat) (x2 : Nat) (hC : cC RL p s m args meth c (k0 :: WA) cL_isAdded 14 (some .boolean) G S sz) (hv : lPr z9 (cA G S sz) s) (hce : ce + 0 ≤ 2) (hsl : sl + 0 ≤ 21) (D D2 : CD) (x3 : Int32) (x4 : Int32) (x5 : Int32) (x6 : Int32) (id9 : Nat) (vs : List Int32) (us : List Int64) {H : Heap} {locs : List Loc} {ls : Array Slot} (hP : va_P G.1 vwCl (cW G S D) H) (hS : va_S (cA G S sz) s.heap H locs) (hl : lv_has ls 14 [(0, .ref x0), (1, .ref x1), (2, .ref x2), (3, .int x3), (4, .int x4), (5, .int x5), (6, .int x6)]) (h : f_L_isAdded_A F S D x0 x1 x2 x3 x4 x5 x6 = some (D2, id9, vs, us))
    (kx0 : ∀ (H : Heap) (locs : List Loc) (ls : Array Slot) (x3 : Int32) (x4 : Int32) (x5 : Int32) (x6 : Int32) (x7 : Int32) (x8 : Int32) (x9 : Int64), id9 = 0 → vs = [x3, x4, x5, x6, x7, x8] → us = [x9] → va_P G.1 vwCl (cW G S D2) H → va_S (cA G S sz) s.heap H locs → lv_has ls 14 [(0, .ref x0), (1, .ref x1), (2, .ref x2), (3, .int x3), (4, .int x4), (5, .int x5), (6, .int x6), (7, .int x7), (8, .int x8), (9, .long x9)] → W p l e (headSpec wL_isAdded ({ frames := 11, cells := 2, slots := 21, locals := 430 })).room s m args below meth c H locs (ce + 0) (sl + 0) Q (F0 m 50 ls [])) : W p l e (headSpec wL_isAdded ({ frames := 11, cells := 2, slots := 21, locals := 430 })).room s m args below meth c H locs ce sl Q (F0 m 0 ls []) := by
  have hC0 := hC
  obtain ⟨hx, hb, -, hts, hown, -, hml, -, -, -⟩ := hC0
  have hce : ce + 0 ≤ ((headSpec wL_isAdded ({ frames := 11, cells := 2, slots := 21, locals := 430 })).room).cells := hce
  have hsl : sl + 0 ≤ ((headSpec wL_isAdded ({ frames := 11, cells := 2, slots := 21, locals := 430 })).room).slots := hsl
  have b42 : ∀ (H : Heap) (locs : List Loc) (ls : Array Slot) (D : CD) (x3 : Int32) (x4 : Int32) (x5 : Int32) (x6 : Int32) (x7 : Int32) (s0 : Int32), va_P G.1 vwCl (cW G S D) H → va_S (cA G S sz) s.heap H locs → lv_has ls 14 [(0, .ref x0), (1, .ref x1), (2, .ref x2), (3, .int x3), (4, .int x4), (5, .int x5), (6, .int x6), (7, .int x7)] → f_L_isAdded_A_b42 F S x0 x1 x2 D x3 x4 x5 x6 x7 s0 = some (D2, id9, vs, us) → W p l e (headSpec wL_isAdded ({ frames := 11, cells := 2, slots := 21, locals := 430 })).room s m args below meth c H locs (ce + 0) (sl + 0) Q (F0 m 42 ls [.int s0]) := by
    intro H locs ls D x3 x4 x5 x6 x7 s0 hP hS hl h
    unfold f_L_isAdded_A_b42 at h
    refine lv_istore (lv' := [(8, .int s0), (0, .ref x0), (1, .ref x1), (2, .ref x2), (3, .int x3), (4, .int x4), (5, .int x5), (6, .int x6), (7, .int x7)]) hx hb dL_isAdded_42 hl (by decide) rfl (fun ls hl => ?_)
    refine lv_aload_n hx hb dL_isAdded_44 rfl (lv_at hl 1 rfl) ?_
    obtain ⟨t2, e1, h⟩ := cal_el h
    refine g_SL (As := [.ref x0]) (rest := []) hC hP hS (m_L_all l G F S D x0 t2 e1) (va_cwS 1 hts (gSA wa_263 wa_264 wa_233 wa_203 (fun w h => h)) rfl rfl rfl (by decide +kernel) ⟨Nat.le_of_ble_eq_true rfl, Nat.le_of_ble_eq_true rfl⟩) rfl hl.1 rfl (Nat.le_of_ble_eq_true rfl) dL_isAdded_45 ⟨by omega, by omega⟩ (fun H locs hP hS => ?_)
    refine lv_lstore (lv' := [(9, .long t2), (8, .int s0), (0, .ref x0), (1, .ref x1), (2, .ref x2), (3, .int x3), (4, .int x4), (5, .int x5), (6, .int x6), (7, .int x7)]) hx hb dL_isAdded_48 hl (by decide) rfl (fun ls hl => ?_)
    cases h
    refine W.widen (k := ce + 0) (n := sl + 0) (by omega) (by omega) ?_
    exact kx0 _ _ _ x3 x4 x5 x6 x7 s0 t2 rfl rfl rfl hP hS (lv_sub hl [2, 3, 4, 5, 6, 7, 8, 9, 1, 0] rfl)
  have b24 : ∀ (H : Heap) (locs : List Loc) (ls : Array Slot) (D : CD) (x3 : Int32) (x4 : Int32) (x5 : Int32) (x6 : Int32) (s0 : Int32), va_P G.1 vwCl (cW G S D) H → va_S (cA G S sz) s.heap H locs → lv_has ls 14 [(0, .ref x0), (1, .ref x1), (2, .ref x2), (3, .int x3), (4, .int x4), (5, .int x5), (6, .int x6)] → f_L_isAdded_A_b24 F S x0 x1 x2 D x3 x4 x5 x6 s0 = some (D2, id9, vs, us) → W p l e (headSpec wL_isAdded ({ frames := 11, cells := 2, slots := 21, locals := 430 })).room s m args below meth c H locs (ce + 0) (sl + 0) Q (F0 m 24 ls [.int s0]) := by
    intro H locs ls D x3 x4 x5 x6 s0 hP hS hl h
    unfold f_L_isAdded_A_b24 at h
    refine lv_istore (lv' := [(7, .int s0), (0, .ref x0), (1, .ref x1), (2, .ref x2), (3, .int x3), (4, .int x4), (5, .int x5), (6, .int x6)]) hx hb dL_isAdded_24 hl (by decide) rfl (fun ls hl => ?_)
    refine lv_aload_n hx hb dL_isAdded_26 rfl (lv_at hl 3 rfl) ?_
    refine lv_iconst (v := 0) hx hb dL_isAdded_27 (by decide) ?_
    obtain ⟨z1, h⟩ := ckK_el h
    obtain ⟨y3, t2, e4, h⟩ := rdI_el h
    refine g_ild hC hP z1.1 z1.2 y3 e4 dL_isAdded_28 ?_
    refine lv_bipush (v := 12) hx hb dL_isAdded_29 (by decide) ?_
    refine lv_icmp_ge (tgt := 40) hx hb dL_isAdded_31 (by decide) (fun u5 => ?_) (fun u5 => ?_)
    · have h := ite_t u5 h
      refine lv_bipush (v := 12) hx hb dL_isAdded_40 (by decide) ?_
      refine W.widen (k := ce + 0) (n := sl + 0) (by omega) (by omega) ?_
      exact b42 _ _ _ D x3 x4 x5 x6 s0 12 hP hS (lv_sub hl [1, 2, 3, 4, 5, 6, 7, 0] rfl) h
    · have h := ite_f u5 h
      refine lv_aload_n hx hb dL_isAdded_34 rfl (lv_at hl 3 rfl) ?_
      refine lv_iconst (v := 0) hx hb dL_isAdded_35 (by decide) ?_
      obtain ⟨y7, t6, e8, h⟩ := rdI_el h
      refine g_ild hC hP z1.1 z1.2 y7 e8 dL_isAdded_36 ?_
      refine lv_goto (tgt := 42) hx hb dL_isAdded_37 (by decide) ?_
      refine W.widen (k := ce + 0) (n := sl + 0) (by omega) (by omega) ?_
      exact b42 _ _ _ D x3 x4 x5 x6 s0 t6 hP hS (lv_sub hl [1, 2, 3, 4, 5, 6, 7, 0] rfl) h
  unfold f_L_isAdded_A at h
  refine lv_iload_n hx hb dL_isAdded_0 rfl (lv_at hl 3 rfl) ?_
  refine lv_iload hx hb dL_isAdded_1 (lv_at hl 5 rfl) ?_
  refine lv_icmp_lt (tgt := 19) hx hb dL_isAdded_3 (by decide) (fun u1 => ?_) (fun u1 => ?_)
  · have h := ite_t u1 h
    refine lv_iconst (v := 1) hx hb dL_isAdded_19 (by decide) ?_
    refine lv_goto (tgt := 24) hx hb dL_isAdded_20 (by decide) ?_
    refine W.widen (k := ce + 0) (n := sl + 0) (by omega) (by omega) ?_
    exact b24 _ _ _ D x3 x4 x5 x6 1 hP hS (lv_sub hl [0, 1, 2, 3, 4, 5, 6] rfl) h
  · have h := ite_f u1 h
    refine lv_iload_n hx hb dL_isAdded_6 rfl (lv_at hl 3 rfl) ?_
    refine lv_iload hx hb dL_isAdded_7 (lv_at hl 5 rfl) ?_
    refine lv_icmp_ne (tgt := 23) hx hb dL_isAdded_9 (by decide) (fun u2 => ?_) (fun u2 => ?_)
    · have h := ite_f u2 h
      refine lv_iconst (v := 0) hx hb dL_isAdded_23 (by decide) ?_
      refine W.widen (k := ce + 0) (n := sl + 0) (by omega) (by omega) ?_
      exact b24 _ _ _ D x3 x4 x5 x6 0 hP hS (lv_sub hl [0, 1, 2, 3, 4, 5, 6] rfl) h
    · have h := ite_t u2 h
      refine lv_iload hx hb dL_isAdded_12 (lv_at hl 4 rfl) ?_
      refine lv_iload hx hb dL_isAdded_14 (lv_at hl 6 rfl) ?_
      refine lv_icmp_ge (tgt := 23) hx hb dL_isAdded_16 (by decide) (fun u3 => ?_) (fun u3 => ?_)
      · have h := ite_t u3 h
        refine lv_iconst (v := 0) hx hb dL_isAdded_23 (by decide) ?_
        refine W.widen (k := ce + 0) (n := sl + 0) (by omega) (by omega) ?_
        exact b24 _ _ _ D x3 x4 x5 x6 0 hP hS (lv_sub hl [0, 1, 2, 3, 4, 5, 6] rfl) h
      · have h := ite_f u3 h
        refine lv_iconst (v := 1) hx hb dL_isAdded_19 (by decide) ?_
        refine lv_goto (tgt := 24) hx hb dL_isAdded_20 (by decide) ?_
        refine W.widen (k := ce + 0) (n := sl + 0) (by omega) (by omega) ?_
        exact b24 _ _ _ D x3 x4 x5 x6 1 hP hS (lv_sub hl [0, 1, 2, 3, 4, 5, 6] rfl) h

def f_L_isAdded_B_b252 (F : Nat) (S : CS) (x0 : Nat) (x1 : Nat) (x2 : Nat) (D : CD) (x9 : Int64) (x12 : Int32) (s0 : Int32) (s1 : Int32) : Option (CD × Nat × List Int32 × List Int64) := (if s1 = s0 then ckK S x0 6 <| cal (f_X6_segments F S D x0) fun t5 => ckK S x2 8 <| rdI (S.2.2.2 x2) (D.2.2.1 x2) 0 fun t7 => (if t5 = t7 then (if x12 = 0 then cal (f_L_all F S D x0) fun t15 => (if (lg_cmp t15 x9) = 0 then okB 1 <| some (D, 0, [1], []) else okB 0 <| some (D, 0, [0], [])) else okB 1 <| some (D, 0, [1], [])) else okB 0 <| some (D, 0, [0], [])) else okB 0 <| some (D, 0, [0], []))
def f_L_isAdded_B_b235 (F : Nat) (S : CS) (x0 : Nat) (x1 : Nat) (x2 : Nat) (D : CD) (x8 : Int32) (x9 : Int64) (x11 : Int32) (x12 : Int32) (s0 : Int32) (s1 : Int32) (s2 : Int32) : Option (CD × Nat × List Int32 × List Int64) := ckK S x2 8 <| ciW S D x2 s2 (s1 + s0) fun D3 => (if x12 = 0 then f_L_isAdded_B_b252 F S x0 x1 x2 D3 x9 x12 ((-603)) x11 else f_L_isAdded_B_b252 F S x0 x1 x2 D3 x9 x12 x8 x11)
def f_L_isAdded_B_b221 (F : Nat) (S : CS) (x0 : Nat) (x1 : Nat) (x2 : Nat) (D : CD) (x8 : Int32) (x9 : Int64) (x11 : Int32) (x12 : Int32) : Option (CD × Nat × List Int32 × List Int64) := ckK S x2 8 <| rdI (S.2.2.2 x2) (D.2.2.1 x2) 0 fun t2 => (if x12 = 0 then f_L_isAdded_B_b235 F S x0 x1 x2 D x8 x9 x11 x12 0 t2 0 else f_L_isAdded_B_b235 F S x0 x1 x2 D x8 x9 x11 x12 1 t2 0)
def f_L_isAdded_B_b213 (F : Nat) (S : CS) (x0 : Nat) (x1 : Nat) (x2 : Nat) (k184 : CD → Int32 → Int64 → Int32 → Int32 → Int32 → Option (CD × Nat × List Int32 × List Int64)) (D : CD) (x8 : Int32) (x9 : Int64) (x11 : Int32) (x13 : Int32) (s0 : Int32) : Option (CD × Nat × List Int32 × List Int64) := k184 D x8 x9 x11 s0 (x13 + 1)
def f_L_isAdded_B_L184 (F : Nat) (S : CS) (x0 : Nat) (x1 : Nat) (x2 : Nat) : Nat → CD → Int32 → Int64 → Int32 → Int32 → Int32 → Option (CD × Nat × List Int32 × List Int64)
  | 0, _, _, _, _, _, _ => none
  | n184 + 1, D, x8, x9, x11, x12, x13 => ckK S x2 8 <| rdI (S.2.2.2 x2) (D.2.2.1 x2) 0 fun t2 => (if t2 ≤ x13 then f_L_isAdded_B_b221 F S x0 x1 x2 D x8 x9 x11 x12 else (if x12 = 0 then f_L_isAdded_B_b221 F S x0 x1 x2 D x8 x9 x11 x12 else cal (f_L_isCovering F S D x1 x13 x8) fun t8 => (if t8 = 0 then f_L_isAdded_B_b213 F S x0 x1 x2 ((f_L_isAdded_B_L184 F S x0 x1 x2 n184)) D x8 x9 x11 x13 1 else f_L_isAdded_B_b213 F S x0 x1 x2 ((f_L_isAdded_B_L184 F S x0 x1 x2 n184)) D x8 x9 x11 x13 0)))
def f_L_isAdded_B_b165 (F : Nat) (S : CS) (x0 : Nat) (x1 : Nat) (x2 : Nat) (D : CD) (x8 : Int32) (x9 : Int64) (x11 : Int32) (s0 : Int32) (s1 : Int32) : Option (CD × Nat × List Int32 × List Int64) := ckK S x1 8 <| ciW S D x1 s1 s0 fun D3 => ckK S x2 8 <| rdI (S.2.2.2 x2) (D3.2.2.1 x2) 0 fun t6 => (if 12 ≤ t6 then f_L_isAdded_B_L184 F S x0 x1 x2 F D3 x8 x9 x11 0 0 else f_L_isAdded_B_L184 F S x0 x1 x2 F D3 x8 x9 x11 1 0)
def f_L_isAdded_B_b145 (F : Nat) (S : CS) (x0 : Nat) (x1 : Nat) (x2 : Nat) (D : CD) (x4 : Int32) (x6 : Int32) (x7 : Int32) (x8 : Int32) (x9 : Int64) (x11 : Int32) (s0 : Int32) (s1 : Int32) : Option (CD × Nat × List Int32 × List Int64) := ckK S x1 8 <| ciW S D x1 s1 s0 fun D3 => (if x7 = 0 then f_L_isAdded_B_b165 F S x0 x1 x2 D3 x8 x9 x11 x4 ((4 * x8) + 3) else f_L_isAdded_B_b165 F S x0 x1 x2 D3 x8 x9 x11 x6 ((4 * x8) + 3))
def f_L_isAdded_B_b126 (F : Nat) (S : CS) (x0 : Nat) (x1 : Nat) (x2 : Nat) (D : CD) (x3 : Int32) (x4 : Int32) (x5 : Int32) (x6 : Int32) (x7 : Int32) (x8 : Int32) (x9 : Int64) (x11 : Int32) (s0 : Int32) (s1 : Int32) : Option (CD × Nat × List Int32 × List Int64) := ckK S x1 8 <| ciW S D x1 s1 s0 fun D3 => (if x7 = 0 then f_L_isAdded_B_b145 F S x0 x1 x2 D3 x4 x6 x7 x8 x9 x11 x3 ((4 * x8) + 2) else f_L_isAdded_B_b145 F S x0 x1 x2 D3 x4 x6 x7 x8 x9 x11 x5 ((4 * x8) + 2))
def f_L_isAdded_B_b106 (F : Nat) (S : CS) (x0 : Nat) (x1 : Nat) (x2 : Nat) (D : CD) (x3 : Int32) (x4 : Int32) (x5 : Int32) (x6 : Int32) (x7 : Int32) (x8 : Int32) (x9 : Int64) (x11 : Int32) (s0 : Int32) (s1 : Int32) : Option (CD × Nat × List Int32 × List Int64) := ckK S x1 8 <| ciW S D x1 s1 s0 fun D3 => (if x7 = 0 then f_L_isAdded_B_b126 F S x0 x1 x2 D3 x3 x4 x5 x6 x7 x8 x9 x11 x6 ((4 * x8) + 1) else f_L_isAdded_B_b126 F S x0 x1 x2 D3 x3 x4 x5 x6 x7 x8 x9 x11 x4 ((4 * x8) + 1))
def f_L_isAdded_B_b90 (F : Nat) (S : CS) (x0 : Nat) (x1 : Nat) (x2 : Nat) (D : CD) (x3 : Int32) (x4 : Int32) (x5 : Int32) (x6 : Int32) (x7 : Int32) (x8 : Int32) (x9 : Int64) (x11 : Int32) : Option (CD × Nat × List Int32 × List Int64) := (if x7 = 0 then f_L_isAdded_B_b106 F S x0 x1 x2 D x3 x4 x5 x6 x7 x8 x9 x11 x5 (4 * x8) else f_L_isAdded_B_b106 F S x0 x1 x2 D x3 x4 x5 x6 x7 x8 x9 x11 x3 (4 * x8))
def f_L_isAdded_B (F : Nat) (S : CS) (D : CD) (x0 : Nat) (x1 : Nat) (x2 : Nat) (x3 : Int32) (x4 : Int32) (x5 : Int32) (x6 : Int32) (x7 : Int32) (x8 : Int32) (x9 : Int64) (s0 : Int32) : Option (CD × Nat × List Int32 × List Int64) := (if x3 = x5 then (if x4 = x6 then (if s0 = ((-602)) then okB 1 <| some (D, 0, [1], []) else okB 0 <| some (D, 0, [0], [])) else f_L_isAdded_B_b90 F S x0 x1 x2 D x3 x4 x5 x6 x7 x8 x9 s0) else f_L_isAdded_B_b90 F S x0 x1 x2 D x3 x4 x5 x6 x7 x8 x9 s0)
set_option maxRecDepth 100000 in
set_option maxHeartbeats 4000000 in
theorem r_L_isAdded_B {p : Program} {l : Launch} {e : Env} {s : State} {m : MethodId} {args : Array Value} {below : List Frame} {meth : Method} {c : Code} {Q : State → Prop} {G : cG} {S : CS} {z9 : Nat × Nat} {sz ce sl : Nat} {k0 : Cond} (hfl : l.stackTraces = false) (F : Nat) (x0 : Nat) (x1 : Nat) (x2 : Nat) (hC : cC RL p s m args meth c (k0 :: WA) cL_isAdded 14 (some .boolean) G S sz) (hv : lPr z9 (cA G S sz) s) (hce : ce + 0 ≤ 2) (hsl : sl + 0 ≤ 21) (D D2 : CD) (x3 : Int32) (x4 : Int32) (x5 : Int32) (x6 : Int32) (x7 : Int32) (x8 : Int32) (x9 : Int64) (s0 : Int32) (id9 : Nat) (vs : List Int32) (us : List Int64) {H : Heap} {locs : List Loc} {ls : Array Slot} (hP : va_P G.1 vwCl (cW G S D) H) (hS : va_S (cA G S sz) s.heap H locs) (hl : lv_has ls 14 [(0, .ref x0), (1, .ref x1), (2, .ref x2), (3, .int x3), (4, .int x4), (5, .int x5), (6, .int x6), (7, .int x7), (8, .int x8), (9, .long x9)]) (h : f_L_isAdded_B F S D x0 x1 x2 x3 x4 x5 x6 x7 x8 x9 s0 = some (D2, id9, vs, us))
    (kx0 : ∀ (pc : Nat) (H : Heap) (locs : List Loc) (ls : Array Slot) (s0 : Int32), decode cL_isAdded pc = .ok (.ireturn, 1) → id9 = 0 → vs = [s0] → us = [] → va_P G.1 vwCl (cW G S D2) H → va_S (cA G S sz) s.heap H locs → (s0 = 0 ∨ s0 = 1) → W p l e (headSpec wL_isAdded ({ frames := 11, cells := 2, slots := 21, locals := 430 })).room s m args below meth c H locs (ce + 0) (sl + 0) Q (F0 m pc ls [.int s0])) : W p l e (headSpec wL_isAdded ({ frames := 11, cells := 2, slots := 21, locals := 430 })).room s m args below meth c H locs ce sl Q (F0 m 61 ls [.int s0]) := by
  have hC0 := hC
  obtain ⟨hx, hb, -, hts, hown, -, hml, -, -, -⟩ := hC0
  have hce : ce + 0 ≤ ((headSpec wL_isAdded ({ frames := 11, cells := 2, slots := 21, locals := 430 })).room).cells := hce
  have hsl : sl + 0 ≤ ((headSpec wL_isAdded ({ frames := 11, cells := 2, slots := 21, locals := 430 })).room).slots := hsl
  have b252 : ∀ (H : Heap) (locs : List Loc) (ls : Array Slot) (D : CD) (x9 : Int64) (x12 : Int32) (s0 : Int32) (s1 : Int32), va_P G.1 vwCl (cW G S D) H → va_S (cA G S sz) s.heap H locs → lv_has ls 14 [(0, .ref x0), (2, .ref x2), (9, .long x9), (12, .int x12)] → f_L_isAdded_B_b252 F S x0 x1 x2 D x9 x12 s0 s1 = some (D2, id9, vs, us) → W p l e (headSpec wL_isAdded ({ frames := 11, cells := 2, slots := 21, locals := 430 })).room s m args below meth c H locs (ce + 0) (sl + 0) Q (F0 m 252 ls [.int s0, .int s1]) := by
    intro H locs ls D x9 x12 s0 s1 hP hS hl h
    unfold f_L_isAdded_B_b252 at h
    refine lv_icmp_ne (tgt := 284) hx hb dL_isAdded_252 (by decide) (fun u1 => ?_) (fun u1 => ?_)
    · have h := ite_f u1 h
      refine lv_iconst (v := 0) hx hb dL_isAdded_284 (by decide) ?_
      obtain ⟨z2, h⟩ := okB_el h
      cases h
      refine W.widen (k := ce + 0) (n := sl + 0) (by omega) (by omega) ?_
      exact kx0 _ _ _ _ 0 dL_isAdded_285 rfl rfl rfl hP hS (by first | exact Or.inl rfl | exact Or.inr rfl | assumption)
    · have h := ite_t u1 h
      refine lv_aload_n hx hb dL_isAdded_255 rfl (lv_at hl 0 rfl) ?_
      obtain ⟨z3, h⟩ := ckK_el h
      obtain ⟨t5, e4, h⟩ := cal_el h
      refine g_VI (As := []) (rest := []) hC hP hS z3.1 (cE_6 z3.2) (C := RX6) (T := TX6) (N := 8) rfl (m_X6_segments l G F S D x0 t5 e4) (cwV 0 hts (gVA wa_214 wa_215 wa_216 (hWCA _ wc_66) (hWCA _ wc_2) hWCA) rfl rfl rfl (by decide +kernel) ⟨Nat.le_of_ble_eq_true rfl, Nat.le_of_ble_eq_true rfl⟩) rfl hl.1 rfl (Nat.le_of_ble_eq_true rfl) dL_isAdded_256 ⟨by omega, by omega⟩ (fun H locs hP hS => ?_)
      refine lv_aload_n hx hb dL_isAdded_259 rfl (lv_at hl 1 rfl) ?_
      refine lv_iconst (v := 0) hx hb dL_isAdded_260 (by decide) ?_
      obtain ⟨z6, h⟩ := ckK_el h
      obtain ⟨y8, t7, e9, h⟩ := rdI_el h
      refine g_ild hC hP z6.1 z6.2 y8 e9 dL_isAdded_261 ?_
      refine lv_icmp_ne (tgt := 284) hx hb dL_isAdded_262 (by decide) (fun u10 => ?_) (fun u10 => ?_)
      · have h := ite_f u10 h
        refine lv_iconst (v := 0) hx hb dL_isAdded_284 (by decide) ?_
        obtain ⟨z11, h⟩ := okB_el h
        cases h
        refine W.widen (k := ce + 0) (n := sl + 0) (by omega) (by omega) ?_
        exact kx0 _ _ _ _ 0 dL_isAdded_285 rfl rfl rfl hP hS (by first | exact Or.inl rfl | exact Or.inr rfl | assumption)
      · have h := ite_t u10 h
        refine lv_iload hx hb dL_isAdded_265 (lv_at hl 3 rfl) ?_
        refine lv_if_ne (tgt := 280) hx hb dL_isAdded_267 (by decide) (fun u12 => ?_) (fun u12 => ?_)
        · have h := ite_f u12 h
          refine lv_iconst (v := 1) hx hb dL_isAdded_280 (by decide) ?_
          refine lv_goto (tgt := 285) hx hb dL_isAdded_281 (by decide) ?_
          obtain ⟨z13, h⟩ := okB_el h
          cases h
          refine W.widen (k := ce + 0) (n := sl + 0) (by omega) (by omega) ?_
          exact kx0 _ _ _ _ 1 dL_isAdded_285 rfl rfl rfl hP hS (by first | exact Or.inl rfl | exact Or.inr rfl | assumption)
        · have h := ite_t u12 h
          refine lv_aload_n hx hb dL_isAdded_270 rfl (lv_at hl 0 rfl) ?_
          obtain ⟨t15, e14, h⟩ := cal_el h
          refine g_SL (As := [.ref x0]) (rest := []) hC hP hS (m_L_all l G F S D x0 t15 e14) (va_cwS 1 hts (gSA wa_263 wa_264 wa_233 wa_203 (fun w h => h)) rfl rfl rfl (by decide +kernel) ⟨Nat.le_of_ble_eq_true rfl, Nat.le_of_ble_eq_true rfl⟩) rfl hl.1 rfl (Nat.le_of_ble_eq_true rfl) dL_isAdded_271 ⟨by omega, by omega⟩ (fun H locs hP hS => ?_)
          refine lv_lload hx hb dL_isAdded_274 (lv_at hl 2 rfl) ?_
          refine W.lcmp hx hb dL_isAdded_276 ?_
          refine lv_if_ne (tgt := 284) hx hb dL_isAdded_277 (by decide) (fun u16 => ?_) (fun u16 => ?_)
          · have h := ite_f u16 h
            refine lv_iconst (v := 0) hx hb dL_isAdded_284 (by decide) ?_
            obtain ⟨z17, h⟩ := okB_el h
            cases h
            refine W.widen (k := ce + 0) (n := sl + 0) (by omega) (by omega) ?_
            exact kx0 _ _ _ _ 0 dL_isAdded_285 rfl rfl rfl hP hS (by first | exact Or.inl rfl | exact Or.inr rfl | assumption)
          · have h := ite_t u16 h
            refine lv_iconst (v := 1) hx hb dL_isAdded_280 (by decide) ?_
            refine lv_goto (tgt := 285) hx hb dL_isAdded_281 (by decide) ?_
            obtain ⟨z18, h⟩ := okB_el h
            cases h
            refine W.widen (k := ce + 0) (n := sl + 0) (by omega) (by omega) ?_
            exact kx0 _ _ _ _ 1 dL_isAdded_285 rfl rfl rfl hP hS (by first | exact Or.inl rfl | exact Or.inr rfl | assumption)
  have b235 : ∀ (H : Heap) (locs : List Loc) (ls : Array Slot) (D : CD) (x8 : Int32) (x9 : Int64) (x11 : Int32) (x12 : Int32) (s0 : Int32) (s1 : Int32) (s2 : Int32), va_P G.1 vwCl (cW G S D) H → va_S (cA G S sz) s.heap H locs → lv_has ls 14 [(0, .ref x0), (2, .ref x2), (8, .int x8), (9, .long x9), (11, .int x11), (12, .int x12)] → f_L_isAdded_B_b235 F S x0 x1 x2 D x8 x9 x11 x12 s0 s1 s2 = some (D2, id9, vs, us) → W p l e (headSpec wL_isAdded ({ frames := 11, cells := 2, slots := 21, locals := 430 })).room s m args below meth c H locs (ce + 0) (sl + 0) Q (F0 m 235 ls [.int s0, .int s1, .int s2, .ref x2]) := by
    intro H locs ls D x8 x9 x11 x12 s0 s1 s2 hP hS hl h
    unfold f_L_isAdded_B_b235 at h
    refine lv_iadd hx hb dL_isAdded_235 ?_
    obtain ⟨z1, h⟩ := ckK_el h
    obtain ⟨y2, D3, e4, h⟩ := ciW_el h
    refine g_ist hC hP hS z1.1 z1.2 y2 e4 dL_isAdded_236 (fun H locs hP hS => ?_)
    refine lv_iload hx hb dL_isAdded_237 (lv_at hl 4 rfl) ?_
    refine lv_iload hx hb dL_isAdded_239 (lv_at hl 5 rfl) ?_
    refine lv_if_eq (tgt := 249) hx hb dL_isAdded_241 (by decide) (fun u5 => ?_) (fun u5 => ?_)
    · have h := ite_t u5 h
      refine lv_sipush (v := (-603)) hx hb dL_isAdded_249 (by decide) ?_
      refine W.widen (k := ce + 0) (n := sl + 0) (by omega) (by omega) ?_
      exact b252 _ _ _ D3 x9 x12 ((-603)) x11 hP hS (lv_sub hl [0, 1, 3, 5] rfl) h
    · have h := ite_f u5 h
      refine lv_iload hx hb dL_isAdded_244 (lv_at hl 2 rfl) ?_
      refine lv_goto (tgt := 252) hx hb dL_isAdded_246 (by decide) ?_
      refine W.widen (k := ce + 0) (n := sl + 0) (by omega) (by omega) ?_
      exact b252 _ _ _ D3 x9 x12 x8 x11 hP hS (lv_sub hl [0, 1, 3, 5] rfl) h
  have b221 : ∀ (H : Heap) (locs : List Loc) (ls : Array Slot) (D : CD) (x8 : Int32) (x9 : Int64) (x11 : Int32) (x12 : Int32), va_P G.1 vwCl (cW G S D) H → va_S (cA G S sz) s.heap H locs → lv_has ls 14 [(0, .ref x0), (2, .ref x2), (8, .int x8), (9, .long x9), (11, .int x11), (12, .int x12)] → f_L_isAdded_B_b221 F S x0 x1 x2 D x8 x9 x11 x12 = some (D2, id9, vs, us) → W p l e (headSpec wL_isAdded ({ frames := 11, cells := 2, slots := 21, locals := 430 })).room s m args below meth c H locs (ce + 0) (sl + 0) Q (F0 m 221 ls []) := by
    intro H locs ls D x8 x9 x11 x12 hP hS hl h
    unfold f_L_isAdded_B_b221 at h
    refine lv_aload_n hx hb dL_isAdded_221 rfl (lv_at hl 1 rfl) ?_
    refine lv_iconst (v := 0) hx hb dL_isAdded_222 (by decide) ?_
    refine lv_dup2_11 hx hb dL_isAdded_223 rfl rfl ?_
    obtain ⟨z1, h⟩ := ckK_el h
    obtain ⟨y3, t2, e4, h⟩ := rdI_el h
    refine g_ild hC hP z1.1 z1.2 y3 e4 dL_isAdded_224 ?_
    refine lv_iload hx hb dL_isAdded_225 (lv_at hl 5 rfl) ?_
    refine lv_if_eq (tgt := 234) hx hb dL_isAdded_227 (by decide) (fun u5 => ?_) (fun u5 => ?_)
    · have h := ite_t u5 h
      refine lv_iconst (v := 0) hx hb dL_isAdded_234 (by decide) ?_
      refine W.widen (k := ce + 0) (n := sl + 0) (by omega) (by omega) ?_
      exact b235 _ _ _ D x8 x9 x11 x12 0 t2 0 hP hS (lv_sub hl [0, 1, 2, 3, 4, 5] rfl) h
    · have h := ite_f u5 h
      refine lv_iconst (v := 1) hx hb dL_isAdded_230 (by decide) ?_
      refine lv_goto (tgt := 235) hx hb dL_isAdded_231 (by decide) ?_
      refine W.widen (k := ce + 0) (n := sl + 0) (by omega) (by omega) ?_
      exact b235 _ _ _ D x8 x9 x11 x12 1 t2 0 hP hS (lv_sub hl [0, 1, 2, 3, 4, 5] rfl) h
  have L184 : ∀ (n184 : Nat) (H : Heap) (locs : List Loc) (ls : Array Slot) (D : CD) (x8 : Int32) (x9 : Int64) (x11 : Int32) (x12 : Int32) (x13 : Int32), va_P G.1 vwCl (cW G S D) H → va_S (cA G S sz) s.heap H locs → lv_has ls 14 [(0, .ref x0), (1, .ref x1), (2, .ref x2), (8, .int x8), (9, .long x9), (11, .int x11), (12, .int x12), (13, .int x13)] → f_L_isAdded_B_L184 F S x0 x1 x2 n184 D x8 x9 x11 x12 x13 = some (D2, id9, vs, us) → W p l e (headSpec wL_isAdded ({ frames := 11, cells := 2, slots := 21, locals := 430 })).room s m args below meth c H locs (ce + 0) (sl + 0) Q (F0 m 184 ls []) := by
    intro n184
    induction n184 with
    | zero =>
      intro H locs ls D x8 x9 x11 x12 x13 hP hS hl h
      rw [f_L_isAdded_B_L184] at h; cases h
    | succ n184 ih184 =>
      have b213 : ∀ (H : Heap) (locs : List Loc) (ls : Array Slot) (D : CD) (x8 : Int32) (x9 : Int64) (x11 : Int32) (x13 : Int32) (s0 : Int32), va_P G.1 vwCl (cW G S D) H → va_S (cA G S sz) s.heap H locs → lv_has ls 14 [(0, .ref x0), (1, .ref x1), (2, .ref x2), (8, .int x8), (9, .long x9), (11, .int x11), (13, .int x13)] → f_L_isAdded_B_b213 F S x0 x1 x2 ((f_L_isAdded_B_L184 F S x0 x1 x2 n184)) D x8 x9 x11 x13 s0 = some (D2, id9, vs, us) → W p l e (headSpec wL_isAdded ({ frames := 11, cells := 2, slots := 21, locals := 430 })).room s m args below meth c H locs (ce + 0) (sl + 0) Q (F0 m 213 ls [.int s0]) := by
        intro H locs ls D x8 x9 x11 x13 s0 hP hS hl h
        unfold f_L_isAdded_B_b213 at h
        refine lv_istore (lv' := [(12, .int s0), (0, .ref x0), (1, .ref x1), (2, .ref x2), (8, .int x8), (9, .long x9), (11, .int x11), (13, .int x13)]) hx hb dL_isAdded_213 hl (by decide) rfl (fun ls hl => ?_)
        refine lv_iinc (v := x13 + 1) (lv' := [(13, .int (x13 + 1)), (12, .int s0), (0, .ref x0), (1, .ref x1), (2, .ref x2), (8, .int x8), (9, .long x9), (11, .int x11)]) hx hb dL_isAdded_215 hl (k := 7) rfl rfl (by decide) rfl (fun ls hl => ?_)
        refine lv_goto (tgt := 184) hx hb dL_isAdded_218 (by decide) ?_
        refine W.widen (k := ce + 0) (n := sl + 0) (by omega) (by omega) ?_
        exact ih184 _ _ _ D x8 x9 x11 s0 (x13 + 1) hP hS (lv_sub hl [2, 3, 4, 5, 6, 7, 1, 0] rfl) h
      intro H locs ls D x8 x9 x11 x12 x13 hP hS hl h
      rw [f_L_isAdded_B_L184] at h
      refine lv_iload hx hb dL_isAdded_184 (lv_at hl 7 rfl) ?_
      refine lv_aload_n hx hb dL_isAdded_186 rfl (lv_at hl 2 rfl) ?_
      refine lv_iconst (v := 0) hx hb dL_isAdded_187 (by decide) ?_
      obtain ⟨z1, h⟩ := ckK_el h
      obtain ⟨y3, t2, e4, h⟩ := rdI_el h
      refine g_ild hC hP z1.1 z1.2 y3 e4 dL_isAdded_188 ?_
      refine lv_icmp_ge (tgt := 221) hx hb dL_isAdded_189 (by decide) (fun u5 => ?_) (fun u5 => ?_)
      · have h := ite_t u5 h
        refine W.widen (k := ce + 0) (n := sl + 0) (by omega) (by omega) ?_
        exact b221 _ _ _ D x8 x9 x11 x12 hP hS (lv_sub hl [0, 2, 3, 4, 5, 6] rfl) h
      · have h := ite_f u5 h
        refine lv_iload hx hb dL_isAdded_192 (lv_at hl 6 rfl) ?_
        refine lv_if_eq (tgt := 221) hx hb dL_isAdded_194 (by decide) (fun u6 => ?_) (fun u6 => ?_)
        · have h := ite_t u6 h
          refine W.widen (k := ce + 0) (n := sl + 0) (by omega) (by omega) ?_
          exact b221 _ _ _ D x8 x9 x11 x12 hP hS (lv_sub hl [0, 2, 3, 4, 5, 6] rfl) h
        · have h := ite_f u6 h
          refine lv_aload_n hx hb dL_isAdded_197 rfl (lv_at hl 1 rfl) ?_
          refine lv_iload hx hb dL_isAdded_198 (lv_at hl 7 rfl) ?_
          refine lv_iload hx hb dL_isAdded_200 (lv_at hl 3 rfl) ?_
          obtain ⟨t8, e7, h⟩ := cal_el h
          refine g_SI (As := [.ref x1, .int x13, .int x8]) (rest := []) hC hP hS (m_L_isCovering l G F S D x1 x13 x8 t8 e7) (va_cwS 3 hts (gSA wa_260 wa_261 wa_233 wa_258 (fun w h => h)) rfl rfl rfl (by decide +kernel) ⟨Nat.le_of_ble_eq_true rfl, Nat.le_of_ble_eq_true rfl⟩) rfl hl.1 rfl (Nat.le_of_ble_eq_true rfl) dL_isAdded_202 ⟨by omega, by omega⟩ (fun H locs hP hS => ?_)
          refine lv_if_ne (tgt := 212) hx hb dL_isAdded_205 (by decide) (fun u9 => ?_) (fun u9 => ?_)
          · have h := ite_f u9 h
            refine lv_iconst (v := 0) hx hb dL_isAdded_212 (by decide) ?_
            refine W.widen (k := ce + 0) (n := sl + 0) (by omega) (by omega) ?_
            exact b213 _ _ _ D x8 x9 x11 x13 0 hP hS (lv_sub hl [0, 1, 2, 3, 4, 5, 7] rfl) h
          · have h := ite_t u9 h
            refine lv_iconst (v := 1) hx hb dL_isAdded_208 (by decide) ?_
            refine lv_goto (tgt := 213) hx hb dL_isAdded_209 (by decide) ?_
            refine W.widen (k := ce + 0) (n := sl + 0) (by omega) (by omega) ?_
            exact b213 _ _ _ D x8 x9 x11 x13 1 hP hS (lv_sub hl [0, 1, 2, 3, 4, 5, 7] rfl) h
  have b165 : ∀ (H : Heap) (locs : List Loc) (ls : Array Slot) (D : CD) (x8 : Int32) (x9 : Int64) (x11 : Int32) (s0 : Int32) (s1 : Int32), va_P G.1 vwCl (cW G S D) H → va_S (cA G S sz) s.heap H locs → lv_has ls 14 [(0, .ref x0), (1, .ref x1), (2, .ref x2), (8, .int x8), (9, .long x9), (11, .int x11)] → f_L_isAdded_B_b165 F S x0 x1 x2 D x8 x9 x11 s0 s1 = some (D2, id9, vs, us) → W p l e (headSpec wL_isAdded ({ frames := 11, cells := 2, slots := 21, locals := 430 })).room s m args below meth c H locs (ce + 0) (sl + 0) Q (F0 m 165 ls [.int s0, .int s1, .ref x1]) := by
    intro H locs ls D x8 x9 x11 s0 s1 hP hS hl h
    unfold f_L_isAdded_B_b165 at h
    obtain ⟨z1, h⟩ := ckK_el h
    obtain ⟨y2, D3, e4, h⟩ := ciW_el h
    refine g_ist hC hP hS z1.1 z1.2 y2 e4 dL_isAdded_165 (fun H locs hP hS => ?_)
    refine lv_aload_n hx hb dL_isAdded_166 rfl (lv_at hl 2 rfl) ?_
    refine lv_iconst (v := 0) hx hb dL_isAdded_167 (by decide) ?_
    obtain ⟨z5, h⟩ := ckK_el h
    obtain ⟨y7, t6, e8, h⟩ := rdI_el h
    refine g_ild hC hP z5.1 z5.2 y7 e8 dL_isAdded_168 ?_
    refine lv_bipush (v := 12) hx hb dL_isAdded_169 (by decide) ?_
    refine lv_icmp_ge (tgt := 178) hx hb dL_isAdded_171 (by decide) (fun u9 => ?_) (fun u9 => ?_)
    · have h := ite_t u9 h
      refine lv_iconst (v := 0) hx hb dL_isAdded_178 (by decide) ?_
      refine lv_istore (lv' := [(12, .int 0), (0, .ref x0), (1, .ref x1), (2, .ref x2), (8, .int x8), (9, .long x9), (11, .int x11)]) hx hb dL_isAdded_179 hl (by decide) rfl (fun ls hl => ?_)
      refine lv_iconst (v := 0) hx hb dL_isAdded_181 (by decide) ?_
      refine lv_istore (lv' := [(13, .int 0), (12, .int 0), (0, .ref x0), (1, .ref x1), (2, .ref x2), (8, .int x8), (9, .long x9), (11, .int x11)]) hx hb dL_isAdded_182 hl (by decide) rfl (fun ls hl => ?_)
      refine W.widen (k := ce + 0) (n := sl + 0) (by omega) (by omega) ?_
      exact L184 F _ _ _ D3 x8 x9 x11 0 0 hP hS (lv_sub hl [2, 3, 4, 5, 6, 7, 1, 0] rfl) h
    · have h := ite_f u9 h
      refine lv_iconst (v := 1) hx hb dL_isAdded_174 (by decide) ?_
      refine lv_goto (tgt := 179) hx hb dL_isAdded_175 (by decide) ?_
      refine lv_istore (lv' := [(12, .int 1), (0, .ref x0), (1, .ref x1), (2, .ref x2), (8, .int x8), (9, .long x9), (11, .int x11)]) hx hb dL_isAdded_179 hl (by decide) rfl (fun ls hl => ?_)
      refine lv_iconst (v := 0) hx hb dL_isAdded_181 (by decide) ?_
      refine lv_istore (lv' := [(13, .int 0), (12, .int 1), (0, .ref x0), (1, .ref x1), (2, .ref x2), (8, .int x8), (9, .long x9), (11, .int x11)]) hx hb dL_isAdded_182 hl (by decide) rfl (fun ls hl => ?_)
      refine W.widen (k := ce + 0) (n := sl + 0) (by omega) (by omega) ?_
      exact L184 F _ _ _ D3 x8 x9 x11 1 0 hP hS (lv_sub hl [2, 3, 4, 5, 6, 7, 1, 0] rfl) h
  have b145 : ∀ (H : Heap) (locs : List Loc) (ls : Array Slot) (D : CD) (x4 : Int32) (x6 : Int32) (x7 : Int32) (x8 : Int32) (x9 : Int64) (x11 : Int32) (s0 : Int32) (s1 : Int32), va_P G.1 vwCl (cW G S D) H → va_S (cA G S sz) s.heap H locs → lv_has ls 14 [(0, .ref x0), (1, .ref x1), (2, .ref x2), (4, .int x4), (6, .int x6), (7, .int x7), (8, .int x8), (9, .long x9), (11, .int x11)] → f_L_isAdded_B_b145 F S x0 x1 x2 D x4 x6 x7 x8 x9 x11 s0 s1 = some (D2, id9, vs, us) → W p l e (headSpec wL_isAdded ({ frames := 11, cells := 2, slots := 21, locals := 430 })).room s m args below meth c H locs (ce + 0) (sl + 0) Q (F0 m 145 ls [.int s0, .int s1, .ref x1]) := by
    intro H locs ls D x4 x6 x7 x8 x9 x11 s0 s1 hP hS hl h
    unfold f_L_isAdded_B_b145 at h
    obtain ⟨z1, h⟩ := ckK_el h
    obtain ⟨y2, D3, e4, h⟩ := ciW_el h
    refine g_ist hC hP hS z1.1 z1.2 y2 e4 dL_isAdded_145 (fun H locs hP hS => ?_)
    refine lv_aload_n hx hb dL_isAdded_146 rfl (lv_at hl 1 rfl) ?_
    refine lv_iconst (v := 4) hx hb dL_isAdded_147 (by decide) ?_
    refine lv_iload hx hb dL_isAdded_148 (lv_at hl 6 rfl) ?_
    refine lv_imul hx hb dL_isAdded_150 ?_
    refine lv_iconst (v := 3) hx hb dL_isAdded_151 (by decide) ?_
    refine lv_iadd hx hb dL_isAdded_152 ?_
    refine lv_iload hx hb dL_isAdded_153 (lv_at hl 5 rfl) ?_
    refine lv_if_eq (tgt := 163) hx hb dL_isAdded_155 (by decide) (fun u5 => ?_) (fun u5 => ?_)
    · have h := ite_t u5 h
      refine lv_iload hx hb dL_isAdded_163 (lv_at hl 3 rfl) ?_
      refine W.widen (k := ce + 0) (n := sl + 0) (by omega) (by omega) ?_
      exact b165 _ _ _ D3 x8 x9 x11 x4 ((4 * x8) + 3) hP hS (lv_sub hl [0, 1, 2, 6, 7, 8] rfl) h
    · have h := ite_f u5 h
      refine lv_iload hx hb dL_isAdded_158 (lv_at hl 4 rfl) ?_
      refine lv_goto (tgt := 165) hx hb dL_isAdded_160 (by decide) ?_
      refine W.widen (k := ce + 0) (n := sl + 0) (by omega) (by omega) ?_
      exact b165 _ _ _ D3 x8 x9 x11 x6 ((4 * x8) + 3) hP hS (lv_sub hl [0, 1, 2, 6, 7, 8] rfl) h
  have b126 : ∀ (H : Heap) (locs : List Loc) (ls : Array Slot) (D : CD) (x3 : Int32) (x4 : Int32) (x5 : Int32) (x6 : Int32) (x7 : Int32) (x8 : Int32) (x9 : Int64) (x11 : Int32) (s0 : Int32) (s1 : Int32), va_P G.1 vwCl (cW G S D) H → va_S (cA G S sz) s.heap H locs → lv_has ls 14 [(0, .ref x0), (1, .ref x1), (2, .ref x2), (3, .int x3), (4, .int x4), (5, .int x5), (6, .int x6), (7, .int x7), (8, .int x8), (9, .long x9), (11, .int x11)] → f_L_isAdded_B_b126 F S x0 x1 x2 D x3 x4 x5 x6 x7 x8 x9 x11 s0 s1 = some (D2, id9, vs, us) → W p l e (headSpec wL_isAdded ({ frames := 11, cells := 2, slots := 21, locals := 430 })).room s m args below meth c H locs (ce + 0) (sl + 0) Q (F0 m 126 ls [.int s0, .int s1, .ref x1]) := by
    intro H locs ls D x3 x4 x5 x6 x7 x8 x9 x11 s0 s1 hP hS hl h
    unfold f_L_isAdded_B_b126 at h
    obtain ⟨z1, h⟩ := ckK_el h
    obtain ⟨y2, D3, e4, h⟩ := ciW_el h
    refine g_ist hC hP hS z1.1 z1.2 y2 e4 dL_isAdded_126 (fun H locs hP hS => ?_)
    refine lv_aload_n hx hb dL_isAdded_127 rfl (lv_at hl 1 rfl) ?_
    refine lv_iconst (v := 4) hx hb dL_isAdded_128 (by decide) ?_
    refine lv_iload hx hb dL_isAdded_129 (lv_at hl 8 rfl) ?_
    refine lv_imul hx hb dL_isAdded_131 ?_
    refine lv_iconst (v := 2) hx hb dL_isAdded_132 (by decide) ?_
    refine lv_iadd hx hb dL_isAdded_133 ?_
    refine lv_iload hx hb dL_isAdded_134 (lv_at hl 7 rfl) ?_
    refine lv_if_eq (tgt := 144) hx hb dL_isAdded_136 (by decide) (fun u5 => ?_) (fun u5 => ?_)
    · have h := ite_t u5 h
      refine lv_iload_n hx hb dL_isAdded_144 rfl (lv_at hl 3 rfl) ?_
      refine W.widen (k := ce + 0) (n := sl + 0) (by omega) (by omega) ?_
      exact b145 _ _ _ D3 x4 x6 x7 x8 x9 x11 x3 ((4 * x8) + 2) hP hS (lv_sub hl [0, 1, 2, 4, 6, 7, 8, 9, 10] rfl) h
    · have h := ite_f u5 h
      refine lv_iload hx hb dL_isAdded_139 (lv_at hl 5 rfl) ?_
      refine lv_goto (tgt := 145) hx hb dL_isAdded_141 (by decide) ?_
      refine W.widen (k := ce + 0) (n := sl + 0) (by omega) (by omega) ?_
      exact b145 _ _ _ D3 x4 x6 x7 x8 x9 x11 x5 ((4 * x8) + 2) hP hS (lv_sub hl [0, 1, 2, 4, 6, 7, 8, 9, 10] rfl) h
  have b106 : ∀ (H : Heap) (locs : List Loc) (ls : Array Slot) (D : CD) (x3 : Int32) (x4 : Int32) (x5 : Int32) (x6 : Int32) (x7 : Int32) (x8 : Int32) (x9 : Int64) (x11 : Int32) (s0 : Int32) (s1 : Int32), va_P G.1 vwCl (cW G S D) H → va_S (cA G S sz) s.heap H locs → lv_has ls 14 [(0, .ref x0), (1, .ref x1), (2, .ref x2), (3, .int x3), (4, .int x4), (5, .int x5), (6, .int x6), (7, .int x7), (8, .int x8), (9, .long x9), (11, .int x11)] → f_L_isAdded_B_b106 F S x0 x1 x2 D x3 x4 x5 x6 x7 x8 x9 x11 s0 s1 = some (D2, id9, vs, us) → W p l e (headSpec wL_isAdded ({ frames := 11, cells := 2, slots := 21, locals := 430 })).room s m args below meth c H locs (ce + 0) (sl + 0) Q (F0 m 106 ls [.int s0, .int s1, .ref x1]) := by
    intro H locs ls D x3 x4 x5 x6 x7 x8 x9 x11 s0 s1 hP hS hl h
    unfold f_L_isAdded_B_b106 at h
    obtain ⟨z1, h⟩ := ckK_el h
    obtain ⟨y2, D3, e4, h⟩ := ciW_el h
    refine g_ist hC hP hS z1.1 z1.2 y2 e4 dL_isAdded_106 (fun H locs hP hS => ?_)
    refine lv_aload_n hx hb dL_isAdded_107 rfl (lv_at hl 1 rfl) ?_
    refine lv_iconst (v := 4) hx hb dL_isAdded_108 (by decide) ?_
    refine lv_iload hx hb dL_isAdded_109 (lv_at hl 8 rfl) ?_
    refine lv_imul hx hb dL_isAdded_111 ?_
    refine lv_iconst (v := 1) hx hb dL_isAdded_112 (by decide) ?_
    refine lv_iadd hx hb dL_isAdded_113 ?_
    refine lv_iload hx hb dL_isAdded_114 (lv_at hl 7 rfl) ?_
    refine lv_if_eq (tgt := 124) hx hb dL_isAdded_116 (by decide) (fun u5 => ?_) (fun u5 => ?_)
    · have h := ite_t u5 h
      refine lv_iload hx hb dL_isAdded_124 (lv_at hl 6 rfl) ?_
      refine W.widen (k := ce + 0) (n := sl + 0) (by omega) (by omega) ?_
      exact b126 _ _ _ D3 x3 x4 x5 x6 x7 x8 x9 x11 x6 ((4 * x8) + 1) hP hS (lv_sub hl [0, 1, 2, 3, 4, 5, 6, 7, 8, 9, 10] rfl) h
    · have h := ite_f u5 h
      refine lv_iload hx hb dL_isAdded_119 (lv_at hl 4 rfl) ?_
      refine lv_goto (tgt := 126) hx hb dL_isAdded_121 (by decide) ?_
      refine W.widen (k := ce + 0) (n := sl + 0) (by omega) (by omega) ?_
      exact b126 _ _ _ D3 x3 x4 x5 x6 x7 x8 x9 x11 x4 ((4 * x8) + 1) hP hS (lv_sub hl [0, 1, 2, 3, 4, 5, 6, 7, 8, 9, 10] rfl) h
  have b90 : ∀ (H : Heap) (locs : List Loc) (ls : Array Slot) (D : CD) (x3 : Int32) (x4 : Int32) (x5 : Int32) (x6 : Int32) (x7 : Int32) (x8 : Int32) (x9 : Int64) (x11 : Int32), va_P G.1 vwCl (cW G S D) H → va_S (cA G S sz) s.heap H locs → lv_has ls 14 [(0, .ref x0), (1, .ref x1), (2, .ref x2), (3, .int x3), (4, .int x4), (5, .int x5), (6, .int x6), (7, .int x7), (8, .int x8), (9, .long x9), (11, .int x11)] → f_L_isAdded_B_b90 F S x0 x1 x2 D x3 x4 x5 x6 x7 x8 x9 x11 = some (D2, id9, vs, us) → W p l e (headSpec wL_isAdded ({ frames := 11, cells := 2, slots := 21, locals := 430 })).room s m args below meth c H locs (ce + 0) (sl + 0) Q (F0 m 90 ls []) := by
    intro H locs ls D x3 x4 x5 x6 x7 x8 x9 x11 hP hS hl h
    unfold f_L_isAdded_B_b90 at h
    refine lv_aload_n hx hb dL_isAdded_90 rfl (lv_at hl 1 rfl) ?_
    refine lv_iconst (v := 4) hx hb dL_isAdded_91 (by decide) ?_
    refine lv_iload hx hb dL_isAdded_92 (lv_at hl 8 rfl) ?_
    refine lv_imul hx hb dL_isAdded_94 ?_
    refine lv_iload hx hb dL_isAdded_95 (lv_at hl 7 rfl) ?_
    refine lv_if_eq (tgt := 104) hx hb dL_isAdded_97 (by decide) (fun u1 => ?_) (fun u1 => ?_)
    · have h := ite_t u1 h
      refine lv_iload hx hb dL_isAdded_104 (lv_at hl 5 rfl) ?_
      refine W.widen (k := ce + 0) (n := sl + 0) (by omega) (by omega) ?_
      exact b106 _ _ _ D x3 x4 x5 x6 x7 x8 x9 x11 x5 (4 * x8) hP hS (lv_sub hl [0, 1, 2, 3, 4, 5, 6, 7, 8, 9, 10] rfl) h
    · have h := ite_f u1 h
      refine lv_iload_n hx hb dL_isAdded_100 rfl (lv_at hl 3 rfl) ?_
      refine lv_goto (tgt := 106) hx hb dL_isAdded_101 (by decide) ?_
      refine W.widen (k := ce + 0) (n := sl + 0) (by omega) (by omega) ?_
      exact b106 _ _ _ D x3 x4 x5 x6 x7 x8 x9 x11 x3 (4 * x8) hP hS (lv_sub hl [0, 1, 2, 3, 4, 5, 6, 7, 8, 9, 10] rfl) h
  unfold f_L_isAdded_B at h
  refine lv_istore (lv' := [(11, .int s0), (0, .ref x0), (1, .ref x1), (2, .ref x2), (3, .int x3), (4, .int x4), (5, .int x5), (6, .int x6), (7, .int x7), (8, .int x8), (9, .long x9)]) hx hb dL_isAdded_61 hl (by decide) rfl (fun ls hl => ?_)
  refine lv_iload_n hx hb dL_isAdded_63 rfl (lv_at hl 4 rfl) ?_
  refine lv_iload hx hb dL_isAdded_64 (lv_at hl 6 rfl) ?_
  refine lv_icmp_ne (tgt := 90) hx hb dL_isAdded_66 (by decide) (fun u1 => ?_) (fun u1 => ?_)
  · have h := ite_f u1 h
    refine W.widen (k := ce + 0) (n := sl + 0) (by omega) (by omega) ?_
    exact b90 _ _ _ D x3 x4 x5 x6 x7 x8 x9 s0 hP hS (lv_sub hl [1, 2, 3, 4, 5, 6, 7, 8, 9, 10, 0] rfl) h
  · have h := ite_t u1 h
    refine lv_iload hx hb dL_isAdded_69 (lv_at hl 5 rfl) ?_
    refine lv_iload hx hb dL_isAdded_71 (lv_at hl 7 rfl) ?_
    refine lv_icmp_ne (tgt := 90) hx hb dL_isAdded_73 (by decide) (fun u2 => ?_) (fun u2 => ?_)
    · have h := ite_f u2 h
      refine W.widen (k := ce + 0) (n := sl + 0) (by omega) (by omega) ?_
      exact b90 _ _ _ D x3 x4 x5 x6 x7 x8 x9 s0 hP hS (lv_sub hl [1, 2, 3, 4, 5, 6, 7, 8, 9, 10, 0] rfl) h
    · have h := ite_t u2 h
      refine lv_iload hx hb dL_isAdded_76 (lv_at hl 0 rfl) ?_
      refine lv_sipush (v := (-602)) hx hb dL_isAdded_78 (by decide) ?_
      refine lv_icmp_ne (tgt := 88) hx hb dL_isAdded_81 (by decide) (fun u3 => ?_) (fun u3 => ?_)
      · have h := ite_f u3 h
        refine lv_iconst (v := 0) hx hb dL_isAdded_88 (by decide) ?_
        obtain ⟨z4, h⟩ := okB_el h
        cases h
        refine W.widen (k := ce + 0) (n := sl + 0) (by omega) (by omega) ?_
        exact kx0 _ _ _ _ 0 dL_isAdded_89 rfl rfl rfl hP hS (by first | exact Or.inl rfl | exact Or.inr rfl | assumption)
      · have h := ite_t u3 h
        refine lv_iconst (v := 1) hx hb dL_isAdded_84 (by decide) ?_
        refine lv_goto (tgt := 89) hx hb dL_isAdded_85 (by decide) ?_
        obtain ⟨z5, h⟩ := okB_el h
        cases h
        refine W.widen (k := ce + 0) (n := sl + 0) (by omega) (by omega) ?_
        exact kx0 _ _ _ _ 1 dL_isAdded_89 rfl rfl rfl hP hS (by first | exact Or.inl rfl | exact Or.inr rfl | assumption)

def f_L_isRemoved_A (F : Nat) (S : CS) (D : CD) (x0 : Nat) (x1 : Nat) (x2 : Nat) (x3 : Int32) : Option (CD × Nat × List Int32 × List Int64) := ckK S x0 6 <| cal (f_X6_edges F S D x0) fun t3 => some (D, 0, [x3, t3], [])
set_option maxRecDepth 100000 in
set_option maxHeartbeats 4000000 in
theorem r_L_isRemoved_A {p : Program} {l : Launch} {e : Env} {s : State} {m : MethodId} {args : Array Value} {below : List Frame} {meth : Method} {c : Code} {Q : State → Prop} {G : cG} {S : CS} {z9 : Nat × Nat} {sz ce sl : Nat} {k0 : Cond} (hfl : l.stackTraces = false) (F : Nat) (x0 : Nat) (x1 : Nat) (x2 : Nat) (hC : cC RL p s m args meth c (k0 :: WA) cL_isRemoved 7 (some .boolean) G S sz) (hv : lPr z9 (cA G S sz) s) (hce : ce + 0 ≤ 0) (hsl : sl + 0 ≤ 0) (D D2 : CD) (x3 : Int32) (id9 : Nat) (vs : List Int32) (us : List Int64) {H : Heap} {locs : List Loc} {ls : Array Slot} (hP : va_P G.1 vwCl (cW G S D) H) (hS : va_S (cA G S sz) s.heap H locs) (hl : lv_has ls 7 [(0, .ref x0), (1, .ref x1), (2, .ref x2), (3, .int x3)]) (h : f_L_isRemoved_A F S D x0 x1 x2 x3 = some (D2, id9, vs, us))
    (kx0 : ∀ (H : Heap) (locs : List Loc) (ls : Array Slot) (x3 : Int32) (x4 : Int32), id9 = 0 → vs = [x3, x4] → us = [] → va_P G.1 vwCl (cW G S D2) H → va_S (cA G S sz) s.heap H locs → lv_has ls 7 [(0, .ref x0), (1, .ref x1), (2, .ref x2), (3, .int x3), (4, .int x4)] → W p l e (headSpec wL_isRemoved ({ frames := 11, cells := 0, slots := 0, locals := 430 })).room s m args below meth c H locs (ce + 0) (sl + 0) Q (F0 m 6 ls [])) : W p l e (headSpec wL_isRemoved ({ frames := 11, cells := 0, slots := 0, locals := 430 })).room s m args below meth c H locs ce sl Q (F0 m 0 ls []) := by
  have hC0 := hC
  obtain ⟨hx, hb, -, hts, hown, -, hml, -, -, -⟩ := hC0
  have hce : ce + 0 ≤ ((headSpec wL_isRemoved ({ frames := 11, cells := 0, slots := 0, locals := 430 })).room).cells := hce
  have hsl : sl + 0 ≤ ((headSpec wL_isRemoved ({ frames := 11, cells := 0, slots := 0, locals := 430 })).room).slots := hsl
  unfold f_L_isRemoved_A at h
  refine lv_aload_n hx hb dL_isRemoved_0 rfl (lv_at hl 0 rfl) ?_
  obtain ⟨z1, h⟩ := ckK_el h
  obtain ⟨t3, e2, h⟩ := cal_el h
  refine g_VI (As := []) (rest := []) hC hP hS z1.1 (cE_6 z1.2) (C := RX6) (T := TX6) (N := 8) rfl (m_X6_edges l G F S D x0 t3 e2) (cwV 0 hts (gVA wa_226 wa_227 wa_228 (hWCA _ wc_66) (hWCA _ wc_75) hWCA) rfl rfl rfl (by decide +kernel) ⟨Nat.le_of_ble_eq_true rfl, Nat.le_of_ble_eq_true rfl⟩) rfl hl.1 rfl (Nat.le_of_ble_eq_true rfl) dL_isRemoved_1 ⟨by omega, by omega⟩ (fun H locs hP hS => ?_)
  refine lv_istore (lv' := [(4, .int t3), (0, .ref x0), (1, .ref x1), (2, .ref x2), (3, .int x3)]) hx hb dL_isRemoved_4 hl (by decide) rfl (fun ls hl => ?_)
  cases h
  refine W.widen (k := ce + 0) (n := sl + 0) (by omega) (by omega) ?_
  exact kx0 _ _ _ x3 t3 rfl rfl rfl hP hS (lv_sub hl [1, 2, 3, 4, 0] rfl)

def f_L_isRemoved_B_L26 (F : Nat) (S : CS) (x0 : Nat) (x1 : Nat) (x2 : Nat) : Nat → CD → Int32 → Int32 → Int32 → Option (CD × Nat × List Int32 × List Int64)
  | 0, _, _, _, _ => none
  | n26 + 1, D, x4, x5, x6 => ckK S x2 8 <| rdI (S.2.2.2 x2) (D.2.2.1 x2) 0 fun t2 => (if (4 * t2) ≤ x6 then rdI (S.2.2.2 x2) (D.2.2.1 x2) 0 fun t6 => (if x5 = t6 then ckK S x0 6 <| cal (f_X6_segments F S D x0) fun t13 => rdI (S.2.2.2 x2) (D.2.2.1 x2) 0 fun t14 => (if t13 = t14 then cal (f_X6_edges F S D x0) fun t20 => (if x4 ≤ t20 then okB 0 <| some (D, 0, [0], []) else okB 1 <| some (D, 0, [1], [])) else okB 0 <| some (D, 0, [0], [])) else okB 0 <| some (D, 0, [0], [])) else ckK S x1 8 <| rdI (S.2.2.2 x1) (D.2.2.1 x1) (x6 + 4) fun t25 => ciW S D x1 x6 t25 fun D29 => (f_L_isRemoved_B_L26 F S x0 x1 x2 n26) D29 x4 x5 (x6 + 1))
def f_L_isRemoved_B (F : Nat) (S : CS) (D : CD) (x0 : Nat) (x1 : Nat) (x2 : Nat) (x3 : Int32) (x4 : Int32) (s0 : Int32) : Option (CD × Nat × List Int32 × List Int64) := ckK S x2 8 <| rdI (S.2.2.2 x2) (D.2.2.1 x2) 0 fun t2 => ciW S D x2 0 (t2 - 1) fun D6 => f_L_isRemoved_B_L26 F S x0 x1 x2 F D6 x4 s0 (4 * x3)
set_option maxRecDepth 100000 in
set_option maxHeartbeats 4000000 in
theorem r_L_isRemoved_B {p : Program} {l : Launch} {e : Env} {s : State} {m : MethodId} {args : Array Value} {below : List Frame} {meth : Method} {c : Code} {Q : State → Prop} {G : cG} {S : CS} {z9 : Nat × Nat} {sz ce sl : Nat} {k0 : Cond} (hfl : l.stackTraces = false) (F : Nat) (x0 : Nat) (x1 : Nat) (x2 : Nat) (hC : cC RL p s m args meth c (k0 :: WA) cL_isRemoved 7 (some .boolean) G S sz) (hv : lPr z9 (cA G S sz) s) (hce : ce + 0 ≤ 0) (hsl : sl + 0 ≤ 0) (D D2 : CD) (x3 : Int32) (x4 : Int32) (s0 : Int32) (id9 : Nat) (vs : List Int32) (us : List Int64) {H : Heap} {locs : List Loc} {ls : Array Slot} (hP : va_P G.1 vwCl (cW G S D) H) (hS : va_S (cA G S sz) s.heap H locs) (hl : lv_has ls 7 [(0, .ref x0), (1, .ref x1), (2, .ref x2), (3, .int x3), (4, .int x4)]) (h : f_L_isRemoved_B F S D x0 x1 x2 x3 x4 s0 = some (D2, id9, vs, us))
    (kx0 : ∀ (pc : Nat) (H : Heap) (locs : List Loc) (ls : Array Slot) (s0 : Int32), decode cL_isRemoved pc = .ok (.ireturn, 1) → id9 = 0 → vs = [s0] → us = [] → va_P G.1 vwCl (cW G S D2) H → va_S (cA G S sz) s.heap H locs → (s0 = 0 ∨ s0 = 1) → W p l e (headSpec wL_isRemoved ({ frames := 11, cells := 0, slots := 0, locals := 430 })).room s m args below meth c H locs (ce + 0) (sl + 0) Q (F0 m pc ls [.int s0])) : W p l e (headSpec wL_isRemoved ({ frames := 11, cells := 0, slots := 0, locals := 430 })).room s m args below meth c H locs ce sl Q (F0 m 12 ls [.int s0]) := by
  have hC0 := hC
  obtain ⟨hx, hb, -, hts, hown, -, hml, -, -, -⟩ := hC0
  have hce : ce + 0 ≤ ((headSpec wL_isRemoved ({ frames := 11, cells := 0, slots := 0, locals := 430 })).room).cells := hce
  have hsl : sl + 0 ≤ ((headSpec wL_isRemoved ({ frames := 11, cells := 0, slots := 0, locals := 430 })).room).slots := hsl
  have L26 : ∀ (n26 : Nat) (H : Heap) (locs : List Loc) (ls : Array Slot) (D : CD) (x4 : Int32) (x5 : Int32) (x6 : Int32), va_P G.1 vwCl (cW G S D) H → va_S (cA G S sz) s.heap H locs → lv_has ls 7 [(0, .ref x0), (1, .ref x1), (2, .ref x2), (4, .int x4), (5, .int x5), (6, .int x6)] → f_L_isRemoved_B_L26 F S x0 x1 x2 n26 D x4 x5 x6 = some (D2, id9, vs, us) → W p l e (headSpec wL_isRemoved ({ frames := 11, cells := 0, slots := 0, locals := 430 })).room s m args below meth c H locs (ce + 0) (sl + 0) Q (F0 m 26 ls []) := by
    intro n26
    induction n26 with
    | zero =>
      intro H locs ls D x4 x5 x6 hP hS hl h
      rw [f_L_isRemoved_B_L26] at h; cases h
    | succ n26 ih26 =>
      intro H locs ls D x4 x5 x6 hP hS hl h
      rw [f_L_isRemoved_B_L26] at h
      refine lv_iload hx hb dL_isRemoved_26 (lv_at hl 5 rfl) ?_
      refine lv_iconst (v := 4) hx hb dL_isRemoved_28 (by decide) ?_
      refine lv_aload_n hx hb dL_isRemoved_29 rfl (lv_at hl 2 rfl) ?_
      refine lv_iconst (v := 0) hx hb dL_isRemoved_30 (by decide) ?_
      obtain ⟨z1, h⟩ := ckK_el h
      obtain ⟨y3, t2, e4, h⟩ := rdI_el h
      refine g_ild hC hP z1.1 z1.2 y3 e4 dL_isRemoved_31 ?_
      refine lv_imul hx hb dL_isRemoved_32 ?_
      refine lv_icmp_ge (tgt := 52) hx hb dL_isRemoved_33 (by decide) (fun u5 => ?_) (fun u5 => ?_)
      · have h := ite_t u5 h
        refine lv_iload hx hb dL_isRemoved_52 (lv_at hl 4 rfl) ?_
        refine lv_aload_n hx hb dL_isRemoved_54 rfl (lv_at hl 2 rfl) ?_
        refine lv_iconst (v := 0) hx hb dL_isRemoved_55 (by decide) ?_
        obtain ⟨y7, t6, e8, h⟩ := rdI_el h
        refine g_ild hC hP z1.1 z1.2 y7 e8 dL_isRemoved_56 ?_
        refine lv_icmp_ne (tgt := 83) hx hb dL_isRemoved_57 (by decide) (fun u9 => ?_) (fun u9 => ?_)
        · have h := ite_f u9 h
          refine lv_iconst (v := 0) hx hb dL_isRemoved_83 (by decide) ?_
          obtain ⟨z10, h⟩ := okB_el h
          cases h
          refine W.widen (k := ce + 0) (n := sl + 0) (by omega) (by omega) ?_
          exact kx0 _ _ _ _ 0 dL_isRemoved_84 rfl rfl rfl hP hS (by first | exact Or.inl rfl | exact Or.inr rfl | assumption)
        · have h := ite_t u9 h
          refine lv_aload_n hx hb dL_isRemoved_60 rfl (lv_at hl 0 rfl) ?_
          obtain ⟨z11, h⟩ := ckK_el h
          obtain ⟨t13, e12, h⟩ := cal_el h
          refine g_VI (As := []) (rest := []) hC hP hS z11.1 (cE_6 z11.2) (C := RX6) (T := TX6) (N := 8) rfl (m_X6_segments l G F S D x0 t13 e12) (cwV 0 hts (gVA wa_214 wa_215 wa_216 (hWCA _ wc_66) (hWCA _ wc_2) hWCA) rfl rfl rfl (by decide +kernel) ⟨Nat.le_of_ble_eq_true rfl, Nat.le_of_ble_eq_true rfl⟩) rfl hl.1 rfl (Nat.le_of_ble_eq_true rfl) dL_isRemoved_61 ⟨by omega, by omega⟩ (fun H locs hP hS => ?_)
          refine lv_aload_n hx hb dL_isRemoved_64 rfl (lv_at hl 2 rfl) ?_
          refine lv_iconst (v := 0) hx hb dL_isRemoved_65 (by decide) ?_
          obtain ⟨y15, t14, e16, h⟩ := rdI_el h
          refine g_ild hC hP z1.1 z1.2 y15 e16 dL_isRemoved_66 ?_
          refine lv_icmp_ne (tgt := 83) hx hb dL_isRemoved_67 (by decide) (fun u17 => ?_) (fun u17 => ?_)
          · have h := ite_f u17 h
            refine lv_iconst (v := 0) hx hb dL_isRemoved_83 (by decide) ?_
            obtain ⟨z18, h⟩ := okB_el h
            cases h
            refine W.widen (k := ce + 0) (n := sl + 0) (by omega) (by omega) ?_
            exact kx0 _ _ _ _ 0 dL_isRemoved_84 rfl rfl rfl hP hS (by first | exact Or.inl rfl | exact Or.inr rfl | assumption)
          · have h := ite_t u17 h
            refine lv_aload_n hx hb dL_isRemoved_70 rfl (lv_at hl 0 rfl) ?_
            obtain ⟨t20, e19, h⟩ := cal_el h
            refine g_VI (As := []) (rest := []) hC hP hS z11.1 (cE_6 z11.2) (C := RX6) (T := TX6) (N := 8) rfl (m_X6_edges l G F S D x0 t20 e19) (cwV 0 hts (gVA wa_226 wa_227 wa_228 (hWCA _ wc_66) (hWCA _ wc_75) hWCA) rfl rfl rfl (by decide +kernel) ⟨Nat.le_of_ble_eq_true rfl, Nat.le_of_ble_eq_true rfl⟩) rfl hl.1 rfl (Nat.le_of_ble_eq_true rfl) dL_isRemoved_71 ⟨by omega, by omega⟩ (fun H locs hP hS => ?_)
            refine lv_iload hx hb dL_isRemoved_74 (lv_at hl 3 rfl) ?_
            refine lv_icmp_ge (tgt := 83) hx hb dL_isRemoved_76 (by decide) (fun u21 => ?_) (fun u21 => ?_)
            · have h := ite_t u21 h
              refine lv_iconst (v := 0) hx hb dL_isRemoved_83 (by decide) ?_
              obtain ⟨z22, h⟩ := okB_el h
              cases h
              refine W.widen (k := ce + 0) (n := sl + 0) (by omega) (by omega) ?_
              exact kx0 _ _ _ _ 0 dL_isRemoved_84 rfl rfl rfl hP hS (by first | exact Or.inl rfl | exact Or.inr rfl | assumption)
            · have h := ite_f u21 h
              refine lv_iconst (v := 1) hx hb dL_isRemoved_79 (by decide) ?_
              refine lv_goto (tgt := 84) hx hb dL_isRemoved_80 (by decide) ?_
              obtain ⟨z23, h⟩ := okB_el h
              cases h
              refine W.widen (k := ce + 0) (n := sl + 0) (by omega) (by omega) ?_
              exact kx0 _ _ _ _ 1 dL_isRemoved_84 rfl rfl rfl hP hS (by first | exact Or.inl rfl | exact Or.inr rfl | assumption)
      · have h := ite_f u5 h
        refine lv_aload_n hx hb dL_isRemoved_36 rfl (lv_at hl 1 rfl) ?_
        refine lv_iload hx hb dL_isRemoved_37 (lv_at hl 5 rfl) ?_
        refine lv_aload_n hx hb dL_isRemoved_39 rfl (lv_at hl 1 rfl) ?_
        refine lv_iload hx hb dL_isRemoved_40 (lv_at hl 5 rfl) ?_
        refine lv_iconst (v := 4) hx hb dL_isRemoved_42 (by decide) ?_
        refine lv_iadd hx hb dL_isRemoved_43 ?_
        obtain ⟨z24, h⟩ := ckK_el h
        obtain ⟨y26, t25, e27, h⟩ := rdI_el h
        refine g_ild hC hP z24.1 z24.2 y26 e27 dL_isRemoved_44 ?_
        obtain ⟨y28, D29, e30, h⟩ := ciW_el h
        refine g_ist hC hP hS z24.1 z24.2 y28 e30 dL_isRemoved_45 (fun H locs hP hS => ?_)
        refine lv_iinc (v := x6 + 1) (lv' := [(6, .int (x6 + 1)), (0, .ref x0), (1, .ref x1), (2, .ref x2), (4, .int x4), (5, .int x5)]) hx hb dL_isRemoved_46 hl (k := 5) rfl rfl (by decide) rfl (fun ls hl => ?_)
        refine lv_goto (tgt := 26) hx hb dL_isRemoved_49 (by decide) ?_
        refine W.widen (k := ce + 0) (n := sl + 0) (by omega) (by omega) ?_
        exact ih26 _ _ _ D29 x4 x5 (x6 + 1) hP hS (lv_sub hl [1, 2, 3, 4, 5, 0] rfl) h
  unfold f_L_isRemoved_B at h
  refine lv_istore (lv' := [(5, .int s0), (0, .ref x0), (1, .ref x1), (2, .ref x2), (3, .int x3), (4, .int x4)]) hx hb dL_isRemoved_12 hl (by decide) rfl (fun ls hl => ?_)
  refine lv_aload_n hx hb dL_isRemoved_14 rfl (lv_at hl 3 rfl) ?_
  refine lv_iconst (v := 0) hx hb dL_isRemoved_15 (by decide) ?_
  refine lv_dup2_11 hx hb dL_isRemoved_16 rfl rfl ?_
  obtain ⟨z1, h⟩ := ckK_el h
  obtain ⟨y3, t2, e4, h⟩ := rdI_el h
  refine g_ild hC hP z1.1 z1.2 y3 e4 dL_isRemoved_17 ?_
  refine lv_iconst (v := 1) hx hb dL_isRemoved_18 (by decide) ?_
  refine lv_isub hx hb dL_isRemoved_19 ?_
  obtain ⟨y5, D6, e7, h⟩ := ciW_el h
  refine g_ist hC hP hS z1.1 z1.2 y5 e7 dL_isRemoved_20 (fun H locs hP hS => ?_)
  refine lv_iconst (v := 4) hx hb dL_isRemoved_21 (by decide) ?_
  refine lv_iload_n hx hb dL_isRemoved_22 rfl (lv_at hl 4 rfl) ?_
  refine lv_imul hx hb dL_isRemoved_23 ?_
  refine lv_istore (lv' := [(6, .int (4 * x3)), (5, .int s0), (0, .ref x0), (1, .ref x1), (2, .ref x2), (3, .int x3), (4, .int x4)]) hx hb dL_isRemoved_24 hl (by decide) rfl (fun ls hl => ?_)
  refine W.widen (k := ce + 0) (n := sl + 0) (by omega) (by omega) ?_
  exact L26 F _ _ _ D6 x4 s0 (4 * x3) hP hS (lv_sub hl [2, 3, 4, 6, 1, 0] rfl) h

