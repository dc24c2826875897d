theorem dL_dx_0 : decode cL_dx 0 = .ok (.aload_n 0, 1) := by decide +kernel
theorem dL_dx_1 : decode cL_dx 1 = .ok (.iconst 4, 1) := by decide +kernel
theorem dL_dx_2 : decode cL_dx 2 = .ok (.iload_n 1, 1) := by decide +kernel
theorem dL_dx_3 : decode cL_dx 3 = .ok (.imul, 1) := by decide +kernel
theorem dL_dx_4 : decode cL_dx 4 = .ok (.iconst 2, 1) := by decide +kernel
theorem dL_dx_5 : decode cL_dx 5 = .ok (.iadd, 1) := by decide +kernel
theorem dL_dx_6 : decode cL_dx 6 = .ok (.iaload, 1) := by decide +kernel
theorem dL_dx_7 : decode cL_dx 7 = .ok (.aload_n 0, 1) := by decide +kernel
theorem dL_dx_8 : decode cL_dx 8 = .ok (.iconst 4, 1) := by decide +kernel
theorem dL_dx_9 : decode cL_dx 9 = .ok (.iload_n 1, 1) := by decide +kernel
theorem dL_dx_10 : decode cL_dx 10 = .ok (.imul, 1) := by decide +kernel
theorem dL_dx_11 : decode cL_dx 11 = .ok (.iaload, 1) := by decide +kernel
theorem dL_dx_12 : decode cL_dx 12 = .ok (.isub, 1) := by decide +kernel
theorem dL_dx_13 : decode cL_dx 13 = .ok (.i2l, 1) := by decide +kernel
theorem dL_dx_14 : decode cL_dx 14 = .ok (.lreturn, 1) := by decide +kernel
def wL_dx : List Cond := Cond.code yL_dx cL_dx 2 (some .long) :: WA
def f_L_dx (F : Nat) (S : CS) (D : CD) (a1 : Nat) (a2 : Int32) : Option Int64 := ckK S a1 8 <| rdI (S.2.2.2 a1) (D.2.2.1 a1) ((4 * a2) + 2) fun t2 => rdI (S.2.2.2 a1) (D.2.2.1 a1) (4 * a2) fun t5 => some ((t2 - t5).toInt64)
set_option maxRecDepth 100000 in
set_option maxHeartbeats 4000000 in
theorem m_L_dx (l : Launch) (G : cG) (F : Nat) (S : CS) (D : CD) (a1 : Nat) (a2 : Int32) (r : Int64) (h : f_L_dx F S D a1 a2 = some r) : cML l yL_dx wL_dx ({ frames := 0, cells := 0, slots := 0, locals := 0 }) G S [.ref a1, .int a2] D D r := by
  refine cBodyL (cc := cL_dx) (maxL := 2) (ret := (some .long)) (own := RL) (by decide) rfl rfl ?_
  intro sz p e s m below meth c hC hP
  skip
  have hC0 := hC
  obtain ⟨hx, hb, -, hts, hown, -, hml, -, -, -⟩ := hC0
  have hS : va_S (cA G S sz) s.heap s.heap [] := va_S.rf
  refine m_entry (Nat.le_of_ble_eq_true rfl) (fun ls hl => ?_)
  have hl : lv_has ls 2 [(0, .ref a1), (1, .int a2)] := hl
  unfold f_L_dx at h
  refine lv_aload_n hx hb dL_dx_0 rfl (lv_at hl 0 rfl) ?_
  refine lv_iconst (v := 4) hx hb dL_dx_1 (by decide) ?_
  refine lv_iload_n hx hb dL_dx_2 rfl (lv_at hl 1 rfl) ?_
  refine lv_imul hx hb dL_dx_3 ?_
  refine lv_iconst (v := 2) hx hb dL_dx_4 (by decide) ?_
  refine lv_iadd hx hb dL_dx_5 ?_
  obtain ⟨z1, h⟩ := ckK_el h
  obtain ⟨y3, t2, e4, h⟩ := rdI_el h
  refine c_ild hC hP z1.1 z1.2 y3 e4 dL_dx_6 ?_
  refine lv_aload_n hx hb dL_dx_7 rfl (lv_at hl 0 rfl) ?_
  refine lv_iconst (v := 4) hx hb dL_dx_8 (by decide) ?_
  refine lv_iload_n hx hb dL_dx_9 rfl (lv_at hl 1 rfl) ?_
  refine lv_imul hx hb dL_dx_10 ?_
  obtain ⟨y6, t5, e7, h⟩ := rdI_el h
  refine c_ild hC hP z1.1 z1.2 y6 e7 dL_dx_11 ?_
  refine lv_isub hx hb dL_dx_12 ?_
  refine lv_i2l (v := (t2 - t5).toInt64) hx hb dL_dx_13 rfl ?_
  cases h
  exact c_lret hC hP hS rfl dL_dx_14

theorem dL_dy_0 : decode cL_dy 0 = .ok (.aload_n 0, 1) := by decide +kernel
theorem dL_dy_1 : decode cL_dy 1 = .ok (.iconst 4, 1) := by decide +kernel
theorem dL_dy_2 : decode cL_dy 2 = .ok (.iload_n 1, 1) := by decide +kernel
theorem dL_dy_3 : decode cL_dy 3 = .ok (.imul, 1) := by decide +kernel
theorem dL_dy_4 : decode cL_dy 4 = .ok (.iconst 3, 1) := by decide +kernel
theorem dL_dy_5 : decode cL_dy 5 = .ok (.iadd, 1) := by decide +kernel
theorem dL_dy_6 : decode cL_dy 6 = .ok (.iaload, 1) := by decide +kernel
theorem dL_dy_7 : decode cL_dy 7 = .ok (.aload_n 0, 1) := by decide +kernel
theorem dL_dy_8 : decode cL_dy 8 = .ok (.iconst 4, 1) := by decide +kernel
theorem dL_dy_9 : decode cL_dy 9 = .ok (.iload_n 1, 1) := by decide +kernel
theorem dL_dy_10 : decode cL_dy 10 = .ok (.imul, 1) := by decide +kernel
theorem dL_dy_11 : decode cL_dy 11 = .ok (.iconst 1, 1) := by decide +kernel
theorem dL_dy_12 : decode cL_dy 12 = .ok (.iadd, 1) := by decide +kernel
theorem dL_dy_13 : decode cL_dy 13 = .ok (.iaload, 1) := by decide +kernel
theorem dL_dy_14 : decode cL_dy 14 = .ok (.isub, 1) := by decide +kernel
theorem dL_dy_15 : decode cL_dy 15 = .ok (.i2l, 1) := by decide +kernel
theorem dL_dy_16 : decode cL_dy 16 = .ok (.lreturn, 1) := by decide +kernel
def wL_dy : List Cond := Cond.code yL_dy cL_dy 2 (some .long) :: WA
def f_L_dy (F : Nat) (S : CS) (D : CD) (a1 : Nat) (a2 : Int32) : Option Int64 := ckK S a1 8 <| rdI (S.2.2.2 a1) (D.2.2.1 a1) ((4 * a2) + 3) fun t2 => rdI (S.2.2.2 a1) (D.2.2.1 a1) ((4 * a2) + 1) fun t5 => some ((t2 - t5).toInt64)
set_option maxRecDepth 100000 in
set_option maxHeartbeats 4000000 in
theorem m_L_dy (l : Launch) (G : cG) (F : Nat) (S : CS) (D : CD) (a1 : Nat) (a2 : Int32) (r : Int64) (h : f_L_dy F S D a1 a2 = some r) : cML l yL_dy wL_dy ({ frames := 0, cells := 0, slots := 0, locals := 0 }) G S [.ref a1, .int a2] D D r := by
  refine cBodyL (cc := cL_dy) (maxL := 2) (ret := (some .long)) (own := RL) (by decide) rfl rfl ?_
  intro sz p e s m below meth c hC hP
  skip
  have hC0 := hC
  obtain ⟨hx, hb, -, hts, hown, -, hml, -, -, -⟩ := hC0
  have hS : va_S (cA G S sz) s.heap s.heap [] := va_S.rf
  refine m_entry (Nat.le_of_ble_eq_true rfl) (fun ls hl => ?_)
  have hl : lv_has ls 2 [(0, .ref a1), (1, .int a2)] := hl
  unfold f_L_dy at h
  refine lv_aload_n hx hb dL_dy_0 rfl (lv_at hl 0 rfl) ?_
  refine lv_iconst (v := 4) hx hb dL_dy_1 (by decide) ?_
  refine lv_iload_n hx hb dL_dy_2 rfl (lv_at hl 1 rfl) ?_
  refine lv_imul hx hb dL_dy_3 ?_
  refine lv_iconst (v := 3) hx hb dL_dy_4 (by decide) ?_
  refine lv_iadd hx hb dL_dy_5 ?_
  obtain ⟨z1, h⟩ := ckK_el h
  obtain ⟨y3, t2, e4, h⟩ := rdI_el h
  refine c_ild hC hP z1.1 z1.2 y3 e4 dL_dy_6 ?_
  refine lv_aload_n hx hb dL_dy_7 rfl (lv_at hl 0 rfl) ?_
  refine lv_iconst (v := 4) hx hb dL_dy_8 (by decide) ?_
  refine lv_iload_n hx hb dL_dy_9 rfl (lv_at hl 1 rfl) ?_
  refine lv_imul hx hb dL_dy_10 ?_
  refine lv_iconst (v := 1) hx hb dL_dy_11 (by decide) ?_
  refine lv_iadd hx hb dL_dy_12 ?_
  obtain ⟨y6, t5, e7, h⟩ := rdI_el h
  refine c_ild hC hP z1.1 z1.2 y6 e7 dL_dy_13 ?_
  refine lv_isub hx hb dL_dy_14 ?_
  refine lv_i2l (v := (t2 - t5).toInt64) hx hb dL_dy_15 rfl ?_
  cases h
  exact c_lret hC hP hS rfl dL_dy_16

theorem dL_height_0 : decode cL_height 0 = .ok (.aload_n 0, 1) := by decide +kernel
theorem dL_height_1 : decode cL_height 1 = .ok (.iconst 4, 1) := by decide +kernel
theorem dL_height_2 : decode cL_height 2 = .ok (.iload_n 1, 1) := by decide +kernel
theorem dL_height_3 : decode cL_height 3 = .ok (.imul, 1) := by decide +kernel
theorem dL_height_4 : decode cL_height 4 = .ok (.iconst 1, 1) := by decide +kernel
theorem dL_height_5 : decode cL_height 5 = .ok (.iadd, 1) := by decide +kernel
theorem dL_height_6 : decode cL_height 6 = .ok (.iaload, 1) := by decide +kernel
theorem dL_height_7 : decode cL_height 7 = .ok (.i2l, 1) := by decide +kernel
theorem dL_height_8 : decode cL_height 8 = .ok (.aload_n 0, 1) := by decide +kernel
theorem dL_height_9 : decode cL_height 9 = .ok (.iload_n 1, 1) := by decide +kernel
theorem dL_height_10 : decode cL_height 10 = .ok (.invokestatic 111, 3) := by decide +kernel
theorem dL_height_13 : decode cL_height 13 = .ok (.lmul, 1) := by decide +kernel
theorem dL_height_14 : decode cL_height 14 = .ok (.aload_n 0, 1) := by decide +kernel
theorem dL_height_15 : decode cL_height 15 = .ok (.iload_n 1, 1) := by decide +kernel
theorem dL_height_16 : decode cL_height 16 = .ok (.invokestatic 117, 3) := by decide +kernel
theorem dL_height_19 : decode cL_height 19 = .ok (.iload_n 2, 1) := by decide +kernel
theorem dL_height_20 : decode cL_height 20 = .ok (.aload_n 0, 1) := by decide +kernel
theorem dL_height_21 : decode cL_height 21 = .ok (.iconst 4, 1) := by decide +kernel
theorem dL_height_22 : decode cL_height 22 = .ok (.iload_n 1, 1) := by decide +kernel
theorem dL_height_23 : decode cL_height 23 = .ok (.imul, 1) := by decide +kernel
theorem dL_height_24 : decode cL_height 24 = .ok (.iaload, 1) := by decide +kernel
theorem dL_height_25 : decode cL_height 25 = .ok (.isub, 1) := by decide +kernel
theorem dL_height_26 : decode cL_height 26 = .ok (.i2l, 1) := by decide +kernel
theorem dL_height_27 : decode cL_height 27 = .ok (.lmul, 1) := by decide +kernel
theorem dL_height_28 : decode cL_height 28 = .ok (.ladd, 1) := by decide +kernel
theorem dL_height_29 : decode cL_height 29 = .ok (.lreturn, 1) := by decide +kernel
def wL_height : List Cond := Cond.code yL_height cL_height 3 (some .long) :: WA
def f_L_height (F : Nat) (S : CS) (D : CD) (a1 : Nat) (a2 : Int32) (a3 : Int32) : Option Int64 := ckK S a1 8 <| rdI (S.2.2.2 a1) (D.2.2.1 a1) ((4 * a2) + 1) fun t2 => cal (f_L_dx F S D a1 a2) fun t6 => cal (f_L_dy F S D a1 a2) fun t8 => rdI (S.2.2.2 a1) (D.2.2.1 a1) (4 * a2) fun t9 => some ((t2.toInt64 * t6) + (t8 * ((a3 - t9).toInt64)))
set_option maxRecDepth 100000 in
set_option maxHeartbeats 4000000 in
theorem m_L_height (l : Launch) (G : cG) (F : Nat) (S : CS) (D : CD) (a1 : Nat) (a2 : Int32) (a3 : Int32) (r : Int64) (h : f_L_height F S D a1 a2 a3 = some r) : cML l yL_height wL_height ({ frames := 1, cells := 0, slots := 0, locals := 21 }) G S [.ref a1, .int a2, .int a3] D D r := by
  refine cBodyL (cc := cL_height) (maxL := 3) (ret := (some .long)) (own := RL) (by decide) rfl rfl ?_
  intro sz p e s m below meth c hC hP
  skip
  have hC0 := hC
  obtain ⟨hx, hb, -, hts, hown, -, hml, -, -, -⟩ := hC0
  have hS : va_S (cA G S sz) s.heap s.heap [] := va_S.rf
  refine m_entry (Nat.le_of_ble_eq_true rfl) (fun ls hl => ?_)
  have hl : lv_has ls 3 [(0, .ref a1), (1, .int a2), (2, .int a3)] := hl
  unfold f_L_height at h
  refine lv_aload_n hx hb dL_height_0 rfl (lv_at hl 0 rfl) ?_
  refine lv_iconst (v := 4) hx hb dL_height_1 (by decide) ?_
  refine lv_iload_n hx hb dL_height_2 rfl (lv_at hl 1 rfl) ?_
  refine lv_imul hx hb dL_height_3 ?_
  refine lv_iconst (v := 1) hx hb dL_height_4 (by decide) ?_
  refine lv_iadd hx hb dL_height_5 ?_
  obtain ⟨z1, h⟩ := ckK_el h
  obtain ⟨y3, t2, e4, h⟩ := rdI_el h
  refine c_ild hC hP z1.1 z1.2 y3 e4 dL_height_6 ?_
  refine lv_i2l (v := t2.toInt64) hx hb dL_height_7 rfl ?_
  refine lv_aload_n hx hb dL_height_8 rfl (lv_at hl 0 rfl) ?_
  refine lv_iload_n hx hb dL_height_9 rfl (lv_at hl 1 rfl) ?_
  obtain ⟨t6, e5, h⟩ := cal_el h
  refine c_SL (As := [.ref a1, .int a2]) (rest := [.long t2.toInt64]) hC hP hS (m_L_dx l G F S D a1 a2 t6 e5) (va_cwS 2 hts (gSA wa_231 wa_232 wa_233 wa_201 (fun w h => h)) rfl rfl rfl (by decide +kernel) ⟨Nat.le_of_ble_eq_true rfl, Nat.le_of_ble_eq_true rfl⟩) rfl hl.1 rfl (Nat.le_of_ble_eq_true rfl) dL_height_10 (fun H locs hP hS => ?_)
  refine lv_lmul hx hb dL_height_13 ?_
  refine lv_aload_n hx hb dL_height_14 rfl (lv_at hl 0 rfl) ?_
  refine lv_iload_n hx hb dL_height_15 rfl (lv_at hl 1 rfl) ?_
  obtain ⟨t8, e7, h⟩ := cal_el h
  refine c_SL (As := [.ref a1, .int a2]) (rest := [.long (t2.toInt64 * t6)]) hC hP hS (m_L_dy l G F S D a1 a2 t8 e7) (va_cwS 2 hts (gSA wa_234 wa_235 wa_233 wa_202 (fun w h => h)) rfl rfl rfl (by decide +kernel) ⟨Nat.le_of_ble_eq_true rfl, Nat.le_of_ble_eq_true rfl⟩) rfl hl.1 rfl (Nat.le_of_ble_eq_true rfl) dL_height_16 (fun H locs hP hS => ?_)
  refine lv_iload_n hx hb dL_height_19 rfl (lv_at hl 2 rfl) ?_
  refine lv_aload_n hx hb dL_height_20 rfl (lv_at hl 0 rfl) ?_
  refine lv_iconst (v := 4) hx hb dL_height_21 (by decide) ?_
  refine lv_iload_n hx hb dL_height_22 rfl (lv_at hl 1 rfl) ?_
  refine lv_imul hx hb dL_height_23 ?_
  obtain ⟨y10, t9, e11, h⟩ := rdI_el h
  refine c_ild hC hP z1.1 z1.2 y10 e11 dL_height_24 ?_
  refine lv_isub hx hb dL_height_25 ?_
  refine lv_i2l (v := (a3 - t9).toInt64) hx hb dL_height_26 rfl ?_
  refine lv_lmul hx hb dL_height_27 ?_
  refine lv_ladd hx hb dL_height_28 ?_
  cases h
  exact c_lret hC hP hS rfl dL_height_29

theorem dL_isAbove_0 : decode cL_isAbove 0 = .ok (.aload_n 0, 1) := by decide +kernel
theorem dL_isAbove_1 : decode cL_isAbove 1 = .ok (.iload_n 1, 1) := by decide +kernel
theorem dL_isAbove_2 : decode cL_isAbove 2 = .ok (.iload_n 3, 1) := by decide +kernel
theorem dL_isAbove_3 : decode cL_isAbove 3 = .ok (.invokestatic 135, 3) := by decide +kernel
theorem dL_isAbove_6 : decode cL_isAbove 6 = .ok (.aload_n 0, 1) := by decide +kernel
theorem dL_isAbove_7 : decode cL_isAbove 7 = .ok (.iload_n 2, 1) := by decide +kernel
theorem dL_isAbove_8 : decode cL_isAbove 8 = .ok (.invokestatic 111, 3) := by decide +kernel
theorem dL_isAbove_11 : decode cL_isAbove 11 = .ok (.lmul, 1) := by decide +kernel
theorem dL_isAbove_12 : decode cL_isAbove 12 = .ok (.aload_n 0, 1) := by decide +kernel
theorem dL_isAbove_13 : decode cL_isAbove 13 = .ok (.iload_n 2, 1) := by decide +kernel
theorem dL_isAbove_14 : decode cL_isAbove 14 = .ok (.iload_n 3, 1) := by decide +kernel
theorem dL_isAbove_15 : decode cL_isAbove 15 = .ok (.invokestatic 135, 3) := by decide +kernel
theorem dL_isAbove_18 : decode cL_isAbove 18 = .ok (.aload_n 0, 1) := by decide +kernel
theorem dL_isAbove_19 : decode cL_isAbove 19 = .ok (.iload_n 1, 1) := by decide +kernel
theorem dL_isAbove_20 : decode cL_isAbove 20 = .ok (.invokestatic 111, 3) := by decide +kernel
theorem dL_isAbove_23 : decode cL_isAbove 23 = .ok (.lmul, 1) := by decide +kernel
theorem dL_isAbove_24 : decode cL_isAbove 24 = .ok (.lsub, 1) := by decide +kernel
theorem dL_isAbove_25 : decode cL_isAbove 25 = .ok (.lstore 4, 2) := by decide +kernel
theorem dL_isAbove_27 : decode cL_isAbove 27 = .ok (.lload 4, 2) := by decide +kernel
theorem dL_isAbove_29 : decode cL_isAbove 29 = .ok (.lconst 0, 1) := by decide +kernel
theorem dL_isAbove_30 : decode cL_isAbove 30 = .ok (.lcmp, 1) := by decide +kernel
theorem dL_isAbove_31 : decode cL_isAbove 31 = .ok (.ifCond .gt 36, 3) := by decide +kernel
theorem dL_isAbove_34 : decode cL_isAbove 34 = .ok (.lload 4, 2) := by decide +kernel
theorem dL_isAbove_36 : decode cL_isAbove 36 = .ok (.lconst 0, 1) := by decide +kernel
theorem dL_isAbove_37 : decode cL_isAbove 37 = .ok (.lcmp, 1) := by decide +kernel
theorem dL_isAbove_38 : decode cL_isAbove 38 = .ok (.ifCond .ne 33, 3) := by decide +kernel
theorem dL_isAbove_41 : decode cL_isAbove 41 = .ok (.aload_n 0, 1) := by decide +kernel
theorem dL_isAbove_42 : decode cL_isAbove 42 = .ok (.iload_n 1, 1) := by decide +kernel
theorem dL_isAbove_43 : decode cL_isAbove 43 = .ok (.invokestatic 117, 3) := by decide +kernel
theorem dL_isAbove_46 : decode cL_isAbove 46 = .ok (.aload_n 0, 1) := by decide +kernel
theorem dL_isAbove_47 : decode cL_isAbove 47 = .ok (.iload_n 2, 1) := by decide +kernel
theorem dL_isAbove_48 : decode cL_isAbove 48 = .ok (.invokestatic 111, 3) := by decide +kernel
theorem dL_isAbove_51 : decode cL_isAbove 51 = .ok (.lmul, 1) := by decide +kernel
theorem dL_isAbove_52 : decode cL_isAbove 52 = .ok (.aload_n 0, 1) := by decide +kernel
theorem dL_isAbove_53 : decode cL_isAbove 53 = .ok (.iload_n 2, 1) := by decide +kernel
theorem dL_isAbove_54 : decode cL_isAbove 54 = .ok (.invokestatic 117, 3) := by decide +kernel
theorem dL_isAbove_57 : decode cL_isAbove 57 = .ok (.aload_n 0, 1) := by decide +kernel
theorem dL_isAbove_58 : decode cL_isAbove 58 = .ok (.iload_n 1, 1) := by decide +kernel
theorem dL_isAbove_59 : decode cL_isAbove 59 = .ok (.invokestatic 111, 3) := by decide +kernel
theorem dL_isAbove_62 : decode cL_isAbove 62 = .ok (.lmul, 1) := by decide +kernel
theorem dL_isAbove_63 : decode cL_isAbove 63 = .ok (.lcmp, 1) := by decide +kernel
theorem dL_isAbove_64 : decode cL_isAbove 64 = .ok (.ifCond .le 7, 3) := by decide +kernel
theorem dL_isAbove_67 : decode cL_isAbove 67 = .ok (.iconst 1, 1) := by decide +kernel
theorem dL_isAbove_68 : decode cL_isAbove 68 = .ok (.goto 4, 3) := by decide +kernel
theorem dL_isAbove_71 : decode cL_isAbove 71 = .ok (.iconst 0, 1) := by decide +kernel
theorem dL_isAbove_72 : decode cL_isAbove 72 = .ok (.ireturn, 1) := by decide +kernel
def wL_isAbove : List Cond := Cond.code yL_isAbove cL_isAbove 6 (some .boolean) :: WA
def f_L_isAbove (F : Nat) (S : CS) (D : CD) (a1 : Nat) (a2 : Int32) (a3 : Int32) (a4 : Int32) : Option Int32 := cal (f_L_height F S D a1 a2 a4) fun t2 => cal (f_L_dx F S D a1 a3) fun t4 => cal (f_L_height F S D a1 a3 a4) fun t6 => cal (f_L_dx F S D a1 a2) fun t8 => (if 0 < (lg_cmp ((t2 * t4) - (t6 * t8)) 0) then okB 1 (some 1) else (if (lg_cmp ((t2 * t4) - (t6 * t8)) 0) = 0 then cal (f_L_dy F S D a1 a2) fun t14 => cal (f_L_dx F S D a1 a3) fun t16 => cal (f_L_dy F S D a1 a3) fun t18 => cal (f_L_dx F S D a1 a2) fun t20 => (if (lg_cmp (t14 * t16) (t18 * t20)) ≤ 0 then okB 0 (some 0) else okB 1 (some 1)) else okB 0 (some 0)))
set_option maxRecDepth 100000 in
set_option maxHeartbeats 4000000 in
theorem m_L_isAbove (l : Launch) (G : cG) (F : Nat) (S : CS) (D : CD) (a1 : Nat) (a2 : Int32) (a3 : Int32) (a4 : Int32) (r : Int32) (h : f_L_isAbove F S D a1 a2 a3 a4 = some r) : cMI l yL_isAbove wL_isAbove ({ frames := 2, cells := 0, slots := 0, locals := 43 }) G S [.ref a1, .int a2, .int a3, .int a4] D D r := by
  refine cBodyI (cc := cL_isAbove) (maxL := 6) (ret := (some .boolean)) (own := RL) (by decide) rfl rfl ?_
  intro sz p e s m below meth c hC hP
  skip
  have hC0 := hC
  obtain ⟨hx, hb, -, hts, hown, -, hml, -, -, -⟩ := hC0
  have hS : va_S (cA G S sz) s.heap s.heap [] := va_S.rf
  refine m_entry (Nat.le_of_ble_eq_true rfl) (fun ls hl => ?_)
  have hl : lv_has ls 6 [(0, .ref a1), (1, .int a2), (2, .int a3), (3, .int a4)] := hl
  unfold f_L_isAbove at h
  refine lv_aload_n hx hb dL_isAbove_0 rfl (lv_at hl 0 rfl) ?_
  refine lv_iload_n hx hb dL_isAbove_1 rfl (lv_at hl 1 rfl) ?_
  refine lv_iload_n hx hb dL_isAbove_2 rfl (lv_at hl 3 rfl) ?_
  obtain ⟨t2, e1, h⟩ := cal_el h
  refine c_SL (As := [.ref a1, .int a2, .int a4]) (rest := []) hC hP hS (m_L_height l G F S D a1 a2 a4 t2 e1) (va_cwS 3 hts (gSA wa_250 wa_251 wa_233 wa_248 (fun w h => h)) rfl rfl rfl (by decide +kernel) ⟨Nat.le_of_ble_eq_true rfl, Nat.le_of_ble_eq_true rfl⟩) rfl hl.1 rfl (Nat.le_of_ble_eq_true rfl) dL_isAbove_3 (fun H locs hP hS => ?_)
  refine lv_aload_n hx hb dL_isAbove_6 rfl (lv_at hl 0 rfl) ?_
  refine lv_iload_n hx hb dL_isAbove_7 rfl (lv_at hl 2 rfl) ?_
  obtain ⟨t4, e3, h⟩ := cal_el h
  refine c_SL (As := [.ref a1, .int a3]) (rest := [.long t2]) hC hP hS (m_L_dx l G F S D a1 a3 t4 e3) (va_cwS 2 hts (gSA wa_231 wa_232 wa_233 wa_201 (fun w h => h)) rfl rfl rfl (by decide +kernel) ⟨Nat.le_of_ble_eq_true rfl, Nat.le_of_ble_eq_true rfl⟩) rfl hl.1 rfl (Nat.le_of_ble_eq_true rfl) dL_isAbove_8 (fun H locs hP hS => ?_)
  refine lv_lmul hx hb dL_isAbove_11 ?_
  refine lv_aload_n hx hb dL_isAbove_12 rfl (lv_at hl 0 rfl) ?_
  refine lv_iload_n hx hb dL_isAbove_13 rfl (lv_at hl 2 rfl) ?_
  refine lv_iload_n hx hb dL_isAbove_14 rfl (lv_at hl 3 rfl) ?_
  obtain ⟨t6, e5, h⟩ := cal_el h
  refine c_SL (As := [.ref a1, .int a3, .int a4]) (rest := [.long (t2 * t4)]) hC hP hS (m_L_height l G F S D a1 a3 a4 t6 e5) (va_cwS 3 hts (gSA wa_250 wa_251 wa_233 wa_248 (fun w h => h)) rfl rfl rfl (by decide +kernel) ⟨Nat.le_of_ble_eq_true rfl, Nat.le_of_ble_eq_true rfl⟩) rfl hl.1 rfl (Nat.le_of_ble_eq_true rfl) dL_isAbove_15 (fun H locs hP hS => ?_)
  refine lv_aload_n hx hb dL_isAbove_18 rfl (lv_at hl 0 rfl) ?_
  refine lv_iload_n hx hb dL_isAbove_19 rfl (lv_at hl 1 rfl) ?_
  obtain ⟨t8, e7, h⟩ := cal_el h
  refine c_SL (As := [.ref a1, .int a2]) (rest := [.long t6, .long (t2 * t4)]) hC hP hS (m_L_dx l G F S D a1 a2 t8 e7) (va_cwS 2 hts (gSA wa_231 wa_232 wa_233 wa_201 (fun w h => h)) rfl rfl rfl (by decide +kernel) ⟨Nat.le_of_ble_eq_true rfl, Nat.le_of_ble_eq_true rfl⟩) rfl hl.1 rfl (Nat.le_of_ble_eq_true rfl) dL_isAbove_20 (fun H locs hP hS => ?_)
  refine lv_lmul hx hb dL_isAbove_23 ?_
  refine lv_lsub hx hb dL_isAbove_24 ?_
  refine lv_lstore (lv' := [(4, .long ((t2 * t4) - (t6 * t8))), (0, .ref a1), (1, .int a2), (2, .int a3), (3, .int a4)]) hx hb dL_isAbove_25 hl (by decide) rfl (fun ls hl => ?_)
  refine lv_lload hx hb dL_isAbove_27 (lv_at hl 0 rfl) ?_
  refine lv_lconst (v := 0) hx hb dL_isAbove_29 (by decide) ?_
  refine W.lcmp hx hb dL_isAbove_30 ?_
  refine lv_if_gt (tgt := 67) hx hb dL_isAbove_31 (by decide) (fun u9 => ?_) (fun u9 => ?_)
  · have h := ite_t u9 h
    refine lv_iconst (v := 1) hx hb dL_isAbove_67 (by decide) ?_
    refine lv_goto (tgt := 72) hx hb dL_isAbove_68 (by decide) ?_
    obtain ⟨z10, h⟩ := okB_el h
    cases h
    exact c_zret hC hP hS z10 rfl dL_isAbove_72
  · have h := ite_f u9 h
    refine lv_lload hx hb dL_isAbove_34 (lv_at hl 0 rfl) ?_
    refine lv_lconst (v := 0) hx hb dL_isAbove_36 (by decide) ?_
    refine W.lcmp hx hb dL_isAbove_37 ?_
    refine lv_if_ne (tgt := 71) hx hb dL_isAbove_38 (by decide) (fun u11 => ?_) (fun u11 => ?_)
    · have h := ite_f u11 h
      refine lv_iconst (v := 0) hx hb dL_isAbove_71 (by decide) ?_
      obtain ⟨z12, h⟩ := okB_el h
      cases h
      exact c_zret hC hP hS z12 rfl dL_isAbove_72
    · have h := ite_t u11 h
      refine lv_aload_n hx hb dL_isAbove_41 rfl (lv_at hl 1 rfl) ?_
      refine lv_iload_n hx hb dL_isAbove_42 rfl (lv_at hl 2 rfl) ?_
      obtain ⟨t14, e13, h⟩ := cal_el h
      refine c_SL (As := [.ref a1, .int a2]) (rest := []) hC hP hS (m_L_dy l G F S D a1 a2 t14 e13) (va_cwS 2 hts (gSA wa_234 wa_235 wa_233 wa_202 (fun w h => h)) rfl rfl rfl (by decide +kernel) ⟨Nat.le_of_ble_eq_true rfl, Nat.le_of_ble_eq_true rfl⟩) rfl hl.1 rfl (Nat.le_of_ble_eq_true rfl) dL_isAbove_43 (fun H locs hP hS => ?_)
      refine lv_aload_n hx hb dL_isAbove_46 rfl (lv_at hl 1 rfl) ?_
      refine lv_iload_n hx hb dL_isAbove_47 rfl (lv_at hl 3 rfl) ?_
      obtain ⟨t16, e15, h⟩ := cal_el h
      refine c_SL (As := [.ref a1, .int a3]) (rest := [.long t14]) hC hP hS (m_L_dx l G F S D a1 a3 t16 e15) (va_cwS 2 hts (gSA wa_231 wa_232 wa_233 wa_201 (fun w h => h)) rfl rfl rfl (by decide +kernel) ⟨Nat.le_of_ble_eq_true rfl, Nat.le_of_ble_eq_true rfl⟩) rfl hl.1 rfl (Nat.le_of_ble_eq_true rfl) dL_isAbove_48 (fun H locs hP hS => ?_)
      refine lv_lmul hx hb dL_isAbove_51 ?_
      refine lv_aload_n hx hb dL_isAbove_52 rfl (lv_at hl 1 rfl) ?_
      refine lv_iload_n hx hb dL_isAbove_53 rfl (lv_at hl 3 rfl) ?_
      obtain ⟨t18, e17, h⟩ := cal_el h
      refine c_SL (As := [.ref a1, .int a3]) (rest := [.long (t14 * t16)]) hC hP hS (m_L_dy l G F S D a1 a3 t18 e17) (va_cwS 2 hts (gSA wa_234 wa_235 wa_233 wa_202 (fun w h => h)) rfl rfl rfl (by decide +kernel) ⟨Nat.le_of_ble_eq_true rfl, Nat.le_of_ble_eq_true rfl⟩) rfl hl.1 rfl (Nat.le_of_ble_eq_true rfl) dL_isAbove_54 (fun H locs hP hS => ?_)
      refine lv_aload_n hx hb dL_isAbove_57 rfl (lv_at hl 1 rfl) ?_
      refine lv_iload_n hx hb dL_isAbove_58 rfl (lv_at hl 2 rfl) ?_
      obtain ⟨t20, e19, h⟩ := cal_el h
      refine c_SL (As := [.ref a1, .int a2]) (rest := [.long t18, .long (t14 * t16)]) hC hP hS (m_L_dx l G F S D a1 a2 t20 e19) (va_cwS 2 hts (gSA wa_231 wa_232 wa_233 wa_201 (fun w h => h)) rfl rfl rfl (by decide +kernel) ⟨Nat.le_of_ble_eq_true rfl, Nat.le_of_ble_eq_true rfl⟩) rfl hl.1 rfl (Nat.le_of_ble_eq_true rfl) dL_isAbove_59 (fun H locs hP hS => ?_)
      refine lv_lmul hx hb dL_isAbove_62 ?_
      refine W.lcmp hx hb dL_isAbove_63 ?_
      refine lv_if_le (tgt := 71) hx hb dL_isAbove_64 (by decide) (fun u21 => ?_) (fun u21 => ?_)
      · have h := ite_t u21 h
        refine lv_iconst (v := 0) hx hb dL_isAbove_71 (by decide) ?_
        obtain ⟨z22, h⟩ := okB_el h
        cases h
        exact c_zret hC hP hS z22 rfl dL_isAbove_72
      · have h := ite_f u21 h
        refine lv_iconst (v := 1) hx hb dL_isAbove_67 (by decide) ?_
        refine lv_goto (tgt := 72) hx hb dL_isAbove_68 (by decide) ?_
        obtain ⟨z23, h⟩ := okB_el h
        cases h
        exact c_zret hC hP hS z23 rfl dL_isAbove_72

theorem dL_isCovering_0 : decode cL_isCovering 0 = .ok (.aload_n 0, 1) := by decide +kernel
theorem dL_isCovering_1 : decode cL_isCovering 1 = .ok (.iload_n 1, 1) := by decide +kernel
theorem dL_isCovering_2 : decode cL_isCovering 2 = .ok (.invokestatic 111, 3) := by decide +kernel
theorem dL_isCovering_5 : decode cL_isCovering 5 = .ok (.aload_n 0, 1) := by decide +kernel
theorem dL_isCovering_6 : decode cL_isCovering 6 = .ok (.iload_n 2, 1) := by decide +kernel
theorem dL_isCovering_7 : decode cL_isCovering 7 = .ok (.invokestatic 117, 3) := by decide +kernel
theorem dL_isCovering_10 : decode cL_isCovering 10 = .ok (.lmul, 1) := by decide +kernel
theorem dL_isCovering_11 : decode cL_isCovering 11 = .ok (.aload_n 0, 1) := by decide +kernel
theorem dL_isCovering_12 : decode cL_isCovering 12 = .ok (.iload_n 1, 1) := by decide +kernel
theorem dL_isCovering_13 : decode cL_isCovering 13 = .ok (.invokestatic 117, 3) := by decide +kernel
theorem dL_isCovering_16 : decode cL_isCovering 16 = .ok (.aload_n 0, 1) := by decide +kernel
theorem dL_isCovering_17 : decode cL_isCovering 17 = .ok (.iload_n 2, 1) := by decide +kernel
theorem dL_isCovering_18 : decode cL_isCovering 18 = .ok (.invokestatic 111, 3) := by decide +kernel
theorem dL_isCovering_21 : decode cL_isCovering 21 = .ok (.lmul, 1) := by decide +kernel
theorem dL_isCovering_22 : decode cL_isCovering 22 = .ok (.lcmp, 1) := by decide +kernel
theorem dL_isCovering_23 : decode cL_isCovering 23 = .ok (.ifCond .ne 51, 3) := by decide +kernel
theorem dL_isCovering_26 : decode cL_isCovering 26 = .ok (.aload_n 0, 1) := by decide +kernel
theorem dL_isCovering_27 : decode cL_isCovering 27 = .ok (.iload_n 1, 1) := by decide +kernel
theorem dL_isCovering_28 : decode cL_isCovering 28 = .ok (.invokestatic 111, 3) := by decide +kernel
theorem dL_isCovering_31 : decode cL_isCovering 31 = .ok (.aload_n 0, 1) := by decide +kernel
theorem dL_isCovering_32 : decode cL_isCovering 32 = .ok (.iconst 4, 1) := by decide +kernel
theorem dL_isCovering_33 : decode cL_isCovering 33 = .ok (.iload_n 2, 1) := by decide +kernel
theorem dL_isCovering_34 : decode cL_isCovering 34 = .ok (.imul, 1) := by decide +kernel
theorem dL_isCovering_35 : decode cL_isCovering 35 = .ok (.iconst 1, 1) := by decide +kernel
theorem dL_isCovering_36 : decode cL_isCovering 36 = .ok (.iadd, 1) := by decide +kernel
theorem dL_isCovering_37 : decode cL_isCovering 37 = .ok (.iaload, 1) := by decide +kernel
theorem dL_isCovering_38 : decode cL_isCovering 38 = .ok (.aload_n 0, 1) := by decide +kernel
theorem dL_isCovering_39 : decode cL_isCovering 39 = .ok (.iconst 4, 1) := by decide +kernel
theorem dL_isCovering_40 : decode cL_isCovering 40 = .ok (.iload_n 1, 1) := by decide +kernel
theorem dL_isCovering_41 : decode cL_isCovering 41 = .ok (.imul, 1) := by decide +kernel
theorem dL_isCovering_42 : decode cL_isCovering 42 = .ok (.iconst 1, 1) := by decide +kernel
theorem dL_isCovering_43 : decode cL_isCovering 43 = .ok (.iadd, 1) := by decide +kernel
theorem dL_isCovering_44 : decode cL_isCovering 44 = .ok (.iaload, 1) := by decide +kernel
theorem dL_isCovering_45 : decode cL_isCovering 45 = .ok (.isub, 1) := by decide +kernel
theorem dL_isCovering_46 : decode cL_isCovering 46 = .ok (.i2l, 1) := by decide +kernel
theorem dL_isCovering_47 : decode cL_isCovering 47 = .ok (.lmul, 1) := by decide +kernel
theorem dL_isCovering_48 : decode cL_isCovering 48 = .ok (.aload_n 0, 1) := by decide +kernel
theorem dL_isCovering_49 : decode cL_isCovering 49 = .ok (.iload_n 1, 1) := by decide +kernel
theorem dL_isCovering_50 : decode cL_isCovering 50 = .ok (.invokestatic 117, 3) := by decide +kernel
theorem dL_isCovering_53 : decode cL_isCovering 53 = .ok (.aload_n 0, 1) := by decide +kernel
theorem dL_isCovering_54 : decode cL_isCovering 54 = .ok (.iconst 4, 1) := by decide +kernel
theorem dL_isCovering_55 : decode cL_isCovering 55 = .ok (.iload_n 2, 1) := by decide +kernel
theorem dL_isCovering_56 : decode cL_isCovering 56 = .ok (.imul, 1) := by decide +kernel
theorem dL_isCovering_57 : decode cL_isCovering 57 = .ok (.iaload, 1) := by decide +kernel
theorem dL_isCovering_58 : decode cL_isCovering 58 = .ok (.aload_n 0, 1) := by decide +kernel
theorem dL_isCovering_59 : decode cL_isCovering 59 = .ok (.iconst 4, 1) := by decide +kernel
theorem dL_isCovering_60 : decode cL_isCovering 60 = .ok (.iload_n 1, 1) := by decide +kernel
theorem dL_isCovering_61 : decode cL_isCovering 61 = .ok (.imul, 1) := by decide +kernel
theorem dL_isCovering_62 : decode cL_isCovering 62 = .ok (.iaload, 1) := by decide +kernel
theorem dL_isCovering_63 : decode cL_isCovering 63 = .ok (.isub, 1) := by decide +kernel
theorem dL_isCovering_64 : decode cL_isCovering 64 = .ok (.i2l, 1) := by decide +kernel
theorem dL_isCovering_65 : decode cL_isCovering 65 = .ok (.lmul, 1) := by decide +kernel
theorem dL_isCovering_66 : decode cL_isCovering 66 = .ok (.lcmp, 1) := by decide +kernel
theorem dL_isCovering_67 : decode cL_isCovering 67 = .ok (.ifCond .ne 7, 3) := by decide +kernel
theorem dL_isCovering_70 : decode cL_isCovering 70 = .ok (.iconst 1, 1) := by decide +kernel
theorem dL_isCovering_71 : decode cL_isCovering 71 = .ok (.goto 4, 3) := by decide +kernel
theorem dL_isCovering_74 : decode cL_isCovering 74 = .ok (.iconst 0, 1) := by decide +kernel
theorem dL_isCovering_75 : decode cL_isCovering 75 = .ok (.istore_n 3, 1) := by decide +kernel
theorem dL_isCovering_76 : decode cL_isCovering 76 = .ok (.sipush 200, 3) := by decide +kernel
theorem dL_isCovering_79 : decode cL_isCovering 79 = .ok (.aload_n 0, 1) := by decide +kernel
theorem dL_isCovering_80 : decode cL_isCovering 80 = .ok (.iconst 4, 1) := by decide +kernel
theorem dL_isCovering_81 : decode cL_isCovering 81 = .ok (.iload_n 1, 1) := by decide +kernel
theorem dL_isCovering_82 : decode cL_isCovering 82 = .ok (.imul, 1) := by decide +kernel
theorem dL_isCovering_83 : decode cL_isCovering 83 = .ok (.iaload, 1) := by decide +kernel
theorem dL_isCovering_84 : decode cL_isCovering 84 = .ok (.imul, 1) := by decide +kernel
theorem dL_isCovering_85 : decode cL_isCovering 85 = .ok (.aload_n 0, 1) := by decide +kernel
theorem dL_isCovering_86 : decode cL_isCovering 86 = .ok (.iconst 4, 1) := by decide +kernel
theorem dL_isCovering_87 : decode cL_isCovering 87 = .ok (.iload_n 1, 1) := by decide +kernel
theorem dL_isCovering_88 : decode cL_isCovering 88 = .ok (.imul, 1) := by decide +kernel
theorem dL_isCovering_89 : decode cL_isCovering 89 = .ok (.iconst 1, 1) := by decide +kernel
theorem dL_isCovering_90 : decode cL_isCovering 90 = .ok (.iadd, 1) := by decide +kernel
theorem dL_isCovering_91 : decode cL_isCovering 91 = .ok (.iaload, 1) := by decide +kernel
theorem dL_isCovering_92 : decode cL_isCovering 92 = .ok (.iadd, 1) := by decide +kernel
theorem dL_isCovering_93 : decode cL_isCovering 93 = .ok (.istore 4, 2) := by decide +kernel
theorem dL_isCovering_95 : decode cL_isCovering 95 = .ok (.sipush 200, 3) := by decide +kernel
theorem dL_isCovering_98 : decode cL_isCovering 98 = .ok (.aload_n 0, 1) := by decide +kernel
theorem dL_isCovering_99 : decode cL_isCovering 99 = .ok (.iconst 4, 1) := by decide +kernel
theorem dL_isCovering_100 : decode cL_isCovering 100 = .ok (.iload_n 1, 1) := by decide +kernel
theorem dL_isCovering_101 : decode cL_isCovering 101 = .ok (.imul, 1) := by decide +kernel
theorem dL_isCovering_102 : decode cL_isCovering 102 = .ok (.iconst 2, 1) := by decide +kernel
theorem dL_isCovering_103 : decode cL_isCovering 103 = .ok (.iadd, 1) := by decide +kernel
theorem dL_isCovering_104 : decode cL_isCovering 104 = .ok (.iaload, 1) := by decide +kernel
theorem dL_isCovering_105 : decode cL_isCovering 105 = .ok (.imul, 1) := by decide +kernel
theorem dL_isCovering_106 : decode cL_isCovering 106 = .ok (.aload_n 0, 1) := by decide +kernel
theorem dL_isCovering_107 : decode cL_isCovering 107 = .ok (.iconst 4, 1) := by decide +kernel
theorem dL_isCovering_108 : decode cL_isCovering 108 = .ok (.iload_n 1, 1) := by decide +kernel
theorem dL_isCovering_109 : decode cL_isCovering 109 = .ok (.imul, 1) := by decide +kernel
theorem dL_isCovering_110 : decode cL_isCovering 110 = .ok (.iconst 3, 1) := by decide +kernel
theorem dL_isCovering_111 : decode cL_isCovering 111 = .ok (.iadd, 1) := by decide +kernel
theorem dL_isCovering_112 : decode cL_isCovering 112 = .ok (.iaload, 1) := by decide +kernel
theorem dL_isCovering_113 : decode cL_isCovering 113 = .ok (.iadd, 1) := by decide +kernel
theorem dL_isCovering_114 : decode cL_isCovering 114 = .ok (.istore 5, 2) := by decide +kernel
theorem dL_isCovering_116 : decode cL_isCovering 116 = .ok (.sipush 200, 3) := by decide +kernel
theorem dL_isCovering_119 : decode cL_isCovering 119 = .ok (.aload_n 0, 1) := by decide +kernel
theorem dL_isCovering_120 : decode cL_isCovering 120 = .ok (.iconst 4, 1) := by decide +kernel
theorem dL_isCovering_121 : decode cL_isCovering 121 = .ok (.iload_n 2, 1) := by decide +kernel
theorem dL_isCovering_122 : decode cL_isCovering 122 = .ok (.imul, 1) := by decide +kernel
theorem dL_isCovering_123 : decode cL_isCovering 123 = .ok (.iaload, 1) := by decide +kernel
theorem dL_isCovering_124 : decode cL_isCovering 124 = .ok (.imul, 1) := by decide +kernel
theorem dL_isCovering_125 : decode cL_isCovering 125 = .ok (.aload_n 0, 1) := by decide +kernel
theorem dL_isCovering_126 : decode cL_isCovering 126 = .ok (.iconst 4, 1) := by decide +kernel
theorem dL_isCovering_127 : decode cL_isCovering 127 = .ok (.iload_n 2, 1) := by decide +kernel
theorem dL_isCovering_128 : decode cL_isCovering 128 = .ok (.imul, 1) := by decide +kernel
theorem dL_isCovering_129 : decode cL_isCovering 129 = .ok (.iconst 1, 1) := by decide +kernel
theorem dL_isCovering_130 : decode cL_isCovering 130 = .ok (.iadd, 1) := by decide +kernel
theorem dL_isCovering_131 : decode cL_isCovering 131 = .ok (.iaload, 1) := by decide +kernel
theorem dL_isCovering_132 : decode cL_isCovering 132 = .ok (.iadd, 1) := by decide +kernel
theorem dL_isCovering_133 : decode cL_isCovering 133 = .ok (.istore 6, 2) := by decide +kernel
theorem dL_isCovering_135 : decode cL_isCovering 135 = .ok (.sipush 200, 3) := by decide +kernel
theorem dL_isCovering_138 : decode cL_isCovering 138 = .ok (.aload_n 0, 1) := by decide +kernel
theorem dL_isCovering_139 : decode cL_isCovering 139 = .ok (.iconst 4, 1) := by decide +kernel
theorem dL_isCovering_140 : decode cL_isCovering 140 = .ok (.iload_n 2, 1) := by decide +kernel
theorem dL_isCovering_141 : decode cL_isCovering 141 = .ok (.imul, 1) := by decide +kernel
theorem dL_isCovering_142 : decode cL_isCovering 142 = .ok (.iconst 2, 1) := by decide +kernel
theorem dL_isCovering_143 : decode cL_isCovering 143 = .ok (.iadd, 1) := by decide +kernel
theorem dL_isCovering_144 : decode cL_isCovering 144 = .ok (.iaload, 1) := by decide +kernel
theorem dL_isCovering_145 : decode cL_isCovering 145 = .ok (.imul, 1) := by decide +kernel
theorem dL_isCovering_146 : decode cL_isCovering 146 = .ok (.aload_n 0, 1) := by decide +kernel
theorem dL_isCovering_147 : decode cL_isCovering 147 = .ok (.iconst 4, 1) := by decide +kernel
theorem dL_isCovering_148 : decode cL_isCovering 148 = .ok (.iload_n 2, 1) := by decide +kernel
theorem dL_isCovering_149 : decode cL_isCovering 149 = .ok (.imul, 1) := by decide +kernel
theorem dL_isCovering_150 : decode cL_isCovering 150 = .ok (.iconst 3, 1) := by decide +kernel
theorem dL_isCovering_151 : decode cL_isCovering 151 = .ok (.iadd, 1) := by decide +kernel
theorem dL_isCovering_152 : decode cL_isCovering 152 = .ok (.iaload, 1) := by decide +kernel
theorem dL_isCovering_153 : decode cL_isCovering 153 = .ok (.iadd, 1) := by decide +kernel
theorem dL_isCovering_154 : decode cL_isCovering 154 = .ok (.istore 7, 2) := by decide +kernel
theorem dL_isCovering_156 : decode cL_isCovering 156 = .ok (.iload_n 3, 1) := by decide +kernel
theorem dL_isCovering_157 : decode cL_isCovering 157 = .ok (.ifCond .eq 21, 3) := by decide +kernel
theorem dL_isCovering_160 : decode cL_isCovering 160 = .ok (.iload 4, 2) := by decide +kernel
theorem dL_isCovering_162 : decode cL_isCovering 162 = .ok (.iload 7, 2) := by decide +kernel
theorem dL_isCovering_164 : decode cL_isCovering 164 = .ok (.if_icmp .ge 14, 3) := by decide +kernel
theorem dL_isCovering_167 : decode cL_isCovering 167 = .ok (.iload 6, 2) := by decide +kernel
theorem dL_isCovering_169 : decode cL_isCovering 169 = .ok (.iload 5, 2) := by decide +kernel
theorem dL_isCovering_171 : decode cL_isCovering 171 = .ok (.if_icmp .ge 7, 3) := by decide +kernel
theorem dL_isCovering_174 : decode cL_isCovering 174 = .ok (.iconst 1, 1) := by decide +kernel
theorem dL_isCovering_175 : decode cL_isCovering 175 = .ok (.goto 4, 3) := by decide +kernel
theorem dL_isCovering_178 : decode cL_isCovering 178 = .ok (.iconst 0, 1) := by decide +kernel
theorem dL_isCovering_179 : decode cL_isCovering 179 = .ok (.ireturn, 1) := by decide +kernel
def wL_isCovering : List Cond := Cond.code yL_isCovering cL_isCovering 8 (some .boolean) :: WA
def f_L_isCovering_b75 (F : Nat) (S : CS) (D : CD) (x0 : Nat) (x1 : Int32) (x2 : Int32) (s0 : Int32) : Option Int32 := ckK S x0 8 <| rdI (S.2.2.2 x0) (D.2.2.1 x0) (4 * x1) fun t2 => rdI (S.2.2.2 x0) (D.2.2.1 x0) ((4 * x1) + 1) fun t5 => rdI (S.2.2.2 x0) (D.2.2.1 x0) ((4 * x1) + 2) fun t8 => rdI (S.2.2.2 x0) (D.2.2.1 x0) ((4 * x1) + 3) fun t11 => rdI (S.2.2.2 x0) (D.2.2.1 x0) (4 * x2) fun t14 => rdI (S.2.2.2 x0) (D.2.2.1 x0) ((4 * x2) + 1) fun t17 => rdI (S.2.2.2 x0) (D.2.2.1 x0) ((4 * x2) + 2) fun t20 => rdI (S.2.2.2 x0) (D.2.2.1 x0) ((4 * x2) + 3) fun t23 => (if s0 = 0 then okB 0 (some 0) else (if ((200 * t20) + t23) ≤ ((200 * t2) + t5) then okB 0 (some 0) else (if ((200 * t8) + t11) ≤ ((200 * t14) + t17) then okB 0 (some 0) else okB 1 (some 1))))
def f_L_isCovering (F : Nat) (S : CS) (D : CD) (a1 : Nat) (a2 : Int32) (a3 : Int32) : Option Int32 := cal (f_L_dx F S D a1 a2) fun t2 => cal (f_L_dy F S D a1 a3) fun t4 => cal (f_L_dy F S D a1 a2) fun t6 => cal (f_L_dx F S D a1 a3) fun t8 => (if (lg_cmp (t2 * t4) (t6 * t8)) = 0 then cal (f_L_dx F S D a1 a2) fun t11 => ckK S a1 8 <| rdI (S.2.2.2 a1) (D.2.2.1 a1) ((4 * a3) + 1) fun t13 => rdI (S.2.2.2 a1) (D.2.2.1 a1) ((4 * a2) + 1) fun t16 => cal (f_L_dy F S D a1 a2) fun t20 => rdI (S.2.2.2 a1) (D.2.2.1 a1) (4 * a3) fun t21 => rdI (S.2.2.2 a1) (D.2.2.1 a1) (4 * a2) fun t24 => (if (lg_cmp (t11 * ((t13 - t16).toInt64)) (t20 * ((t21 - t24).toInt64))) = 0 then f_L_isCovering_b75 F S D a1 a2 a3 1 else f_L_isCovering_b75 F S D a1 a2 a3 0) else f_L_isCovering_b75 F S D a1 a2 a3 0)
set_option maxRecDepth 100000 in
set_option maxHeartbeats 4000000 in
theorem m_L_isCovering (l : Launch) (G : cG) (F : Nat) (S : CS) (D : CD) (a1 : Nat) (a2 : Int32) (a3 : Int32) (r : Int32) (h : f_L_isCovering F S D a1 a2 a3 = some r) : cMI l yL_isCovering wL_isCovering ({ frames := 1, cells := 0, slots := 0, locals := 21 }) G S [.ref a1, .int a2, .int a3] D D r := by
  refine cBodyI (cc := cL_isCovering) (maxL := 8) (ret := (some .boolean)) (own := RL) (by decide) rfl rfl ?_
  intro sz p e s m below meth c hC hP
  skip
  have hC0 := hC
  obtain ⟨hx, hb, -, hts, hown, -, hml, -, -, -⟩ := hC0
  have hS : va_S (cA G S sz) s.heap s.heap [] := va_S.rf
  have b75 : ∀ (H : Heap) (locs : List Loc) (ls : Array Slot) (x0 : Nat) (x1 : Int32) (x2 : Int32) (s0 : Int32), va_P G.1 vwCl (cW G S D) H → va_S (cA G S sz) s.heap H locs → lv_has ls 8 [(0, .ref x0), (1, .int x1), (2, .int x2)] → f_L_isCovering_b75 F S D x0 x1 x2 s0 = some r → W p l e (headSpec wL_isCovering ({ frames := 1, cells := 0, slots := 0, locals := 21 })).room s m ([.ref a1, .int a2, .int a3] : List Value).toArray below meth c H locs 0 0 (cQI below G S D sz ([.ref a1, .int a2, .int a3] : List Value).toArray s r) (F0 m 75 ls [.int s0]) := by
    intro H locs ls x0 x1 x2 s0 hP hS hl h
    unfold f_L_isCovering_b75 at h
    refine lv_istore_n (lv' := [(3, .int s0), (0, .ref x0), (1, .int x1), (2, .int x2)]) hx hb dL_isCovering_75 rfl hl (by decide) rfl (fun ls hl => ?_)
    refine lv_sipush (v := 200) hx hb dL_isCovering_76 (by decide) ?_
    refine lv_aload_n hx hb dL_isCovering_79 rfl (lv_at hl 1 rfl) ?_
    refine lv_iconst (v := 4) hx hb dL_isCovering_80 (by decide) ?_
    refine lv_iload_n hx hb dL_isCovering_81 rfl (lv_at hl 2 rfl) ?_
    refine lv_imul hx hb dL_isCovering_82 ?_
    obtain ⟨z1, h⟩ := ckK_el h
    obtain ⟨y3, t2, e4, h⟩ := rdI_el h
    refine c_ild hC hP z1.1 z1.2 y3 e4 dL_isCovering_83 ?_
    refine lv_imul hx hb dL_isCovering_84 ?_
    refine lv_aload_n hx hb dL_isCovering_85 rfl (lv_at hl 1 rfl) ?_
    refine lv_iconst (v := 4) hx hb dL_isCovering_86 (by decide) ?_
    refine lv_iload_n hx hb dL_isCovering_87 rfl (lv_at hl 2 rfl) ?_
    refine lv_imul hx hb dL_isCovering_88 ?_
    refine lv_iconst (v := 1) hx hb dL_isCovering_89 (by decide) ?_
    refine lv_iadd hx hb dL_isCovering_90 ?_
    obtain ⟨y6, t5, e7, h⟩ := rdI_el h
    refine c_ild hC hP z1.1 z1.2 y6 e7 dL_isCovering_91 ?_
    refine lv_iadd hx hb dL_isCovering_92 ?_
    refine lv_istore (lv' := [(4, .int ((200 * t2) + t5)), (3, .int s0), (0, .ref x0), (1, .int x1), (2, .int x2)]) hx hb dL_isCovering_93 hl (by decide) rfl (fun ls hl => ?_)
    refine lv_sipush (v := 200) hx hb dL_isCovering_95 (by decide) ?_
    refine lv_aload_n hx hb dL_isCovering_98 rfl (lv_at hl 2 rfl) ?_
    refine lv_iconst (v := 4) hx hb dL_isCovering_99 (by decide) ?_
    refine lv_iload_n hx hb dL_isCovering_100 rfl (lv_at hl 3 rfl) ?_
    refine lv_imul hx hb dL_isCovering_101 ?_
    refine lv_iconst (v := 2) hx hb dL_isCovering_102 (by decide) ?_
    refine lv_iadd hx hb dL_isCovering_103 ?_
    obtain ⟨y9, t8, e10, h⟩ := rdI_el h
    refine c_ild hC hP z1.1 z1.2 y9 e10 dL_isCovering_104 ?_
    refine lv_imul hx hb dL_isCovering_105 ?_
    refine lv_aload_n hx hb dL_isCovering_106 rfl (lv_at hl 2 rfl) ?_
    refine lv_iconst (v := 4) hx hb dL_isCovering_107 (by decide) ?_
    refine lv_iload_n hx hb dL_isCovering_108 rfl (lv_at hl 3 rfl) ?_
    refine lv_imul hx hb dL_isCovering_109 ?_
    refine lv_iconst (v := 3) hx hb dL_isCovering_110 (by decide) ?_
    refine lv_iadd hx hb dL_isCovering_111 ?_
    obtain ⟨y12, t11, e13, h⟩ := rdI_el h
    refine c_ild hC hP z1.1 z1.2 y12 e13 dL_isCovering_112 ?_
    refine lv_iadd hx hb dL_isCovering_113 ?_
    refine lv_istore (lv' := [(5, .int ((200 * t8) + t11)), (4, .int ((200 * t2) + t5)), (3, .int s0), (0, .ref x0), (1, .int x1), (2, .int x2)]) hx hb dL_isCovering_114 hl (by decide) rfl (fun ls hl => ?_)
    refine lv_sipush (v := 200) hx hb dL_isCovering_116 (by decide) ?_
    refine lv_aload_n hx hb dL_isCovering_119 rfl (lv_at hl 3 rfl) ?_
    refine lv_iconst (v := 4) hx hb dL_isCovering_120 (by decide) ?_
    refine lv_iload_n hx hb dL_isCovering_121 rfl (lv_at hl 5 rfl) ?_
    refine lv_imul hx hb dL_isCovering_122 ?_
    obtain ⟨y15, t14, e16, h⟩ := rdI_el h
    refine c_ild hC hP z1.1 z1.2 y15 e16 dL_isCovering_123 ?_
    refine lv_imul hx hb dL_isCovering_124 ?_
    refine lv_aload_n hx hb dL_isCovering_125 rfl (lv_at hl 3 rfl) ?_
    refine lv_iconst (v := 4) hx hb dL_isCovering_126 (by decide) ?_
    refine lv_iload_n hx hb dL_isCovering_127 rfl (lv_at hl 5 rfl) ?_
    refine lv_imul hx hb dL_isCovering_128 ?_
    refine lv_iconst (v := 1) hx hb dL_isCovering_129 (by decide) ?_
    refine lv_iadd hx hb dL_isCovering_130 ?_
    obtain ⟨y18, t17, e19, h⟩ := rdI_el h
    refine c_ild hC hP z1.1 z1.2 y18 e19 dL_isCovering_131 ?_
    refine lv_iadd hx hb dL_isCovering_132 ?_
    refine lv_istore (lv' := [(6, .int ((200 * t14) + t17)), (5, .int ((200 * t8) + t11)), (4, .int ((200 * t2) + t5)), (3, .int s0), (0, .ref x0), (1, .int x1), (2, .int x2)]) hx hb dL_isCovering_133 hl (by decide) rfl (fun ls hl => ?_)
    refine lv_sipush (v := 200) hx hb dL_isCovering_135 (by decide) ?_
    refine lv_aload_n hx hb dL_isCovering_138 rfl (lv_at hl 4 rfl) ?_
    refine lv_iconst (v := 4) hx hb dL_isCovering_139 (by decide) ?_
    refine lv_iload_n hx hb dL_isCovering_140 rfl (lv_at hl 6 rfl) ?_
    refine lv_imul hx hb dL_isCovering_141 ?_
    refine lv_iconst (v := 2) hx hb dL_isCovering_142 (by decide) ?_
    refine lv_iadd hx hb dL_isCovering_143 ?_
    obtain ⟨y21, t20, e22, h⟩ := rdI_el h
    refine c_ild hC hP z1.1 z1.2 y21 e22 dL_isCovering_144 ?_
    refine lv_imul hx hb dL_isCovering_145 ?_
    refine lv_aload_n hx hb dL_isCovering_146 rfl (lv_at hl 4 rfl) ?_
    refine lv_iconst (v := 4) hx hb dL_isCovering_147 (by decide) ?_
    refine lv_iload_n hx hb dL_isCovering_148 rfl (lv_at hl 6 rfl) ?_
    refine lv_imul hx hb dL_isCovering_149 ?_
    refine lv_iconst (v := 3) hx hb dL_isCovering_150 (by decide) ?_
    refine lv_iadd hx hb dL_isCovering_151 ?_
    obtain ⟨y24, t23, e25, h⟩ := rdI_el h
    refine c_ild hC hP z1.1 z1.2 y24 e25 dL_isCovering_152 ?_
    refine lv_iadd hx hb dL_isCovering_153 ?_
    refine lv_istore (lv' := [(7, .int ((200 * t20) + t23)), (6, .int ((200 * t14) + t17)), (5, .int ((200 * t8) + t11)), (4, .int ((200 * t2) + t5)), (3, .int s0), (0, .ref x0), (1, .int x1), (2, .int x2)]) hx hb dL_isCovering_154 hl (by decide) rfl (fun ls hl => ?_)
    refine lv_iload_n hx hb dL_isCovering_156 rfl (lv_at hl 4 rfl) ?_
    refine lv_if_eq (tgt := 178) hx hb dL_isCovering_157 (by decide) (fun u26 => ?_) (fun u26 => ?_)
    · have h := ite_t u26 h
      refine lv_iconst (v := 0) hx hb dL_isCovering_178 (by decide) ?_
      obtain ⟨z27, h⟩ := okB_el h
      cases h
      exact c_zret hC hP hS z27 rfl dL_isCovering_179
    · have h := ite_f u26 h
      refine lv_iload hx hb dL_isCovering_160 (lv_at hl 3 rfl) ?_
      refine lv_iload hx hb dL_isCovering_162 (lv_at hl 0 rfl) ?_
      refine lv_icmp_ge (tgt := 178) hx hb dL_isCovering_164 (by decide) (fun u28 => ?_) (fun u28 => ?_)
      · have h := ite_t u28 h
        refine lv_iconst (v := 0) hx hb dL_isCovering_178 (by decide) ?_
        obtain ⟨z29, h⟩ := okB_el h
        cases h
        exact c_zret hC hP hS z29 rfl dL_isCovering_179
      · have h := ite_f u28 h
        refine lv_iload hx hb dL_isCovering_167 (lv_at hl 1 rfl) ?_
        refine lv_iload hx hb dL_isCovering_169 (lv_at hl 2 rfl) ?_
        refine lv_icmp_ge (tgt := 178) hx hb dL_isCovering_171 (by decide) (fun u30 => ?_) (fun u30 => ?_)
        · have h := ite_t u30 h
          refine lv_iconst (v := 0) hx hb dL_isCovering_178 (by decide) ?_
          obtain ⟨z31, h⟩ := okB_el h
          cases h
          exact c_zret hC hP hS z31 rfl dL_isCovering_179
        · have h := ite_f u30 h
          refine lv_iconst (v := 1) hx hb dL_isCovering_174 (by decide) ?_
          refine lv_goto (tgt := 179) hx hb dL_isCovering_175 (by decide) ?_
          obtain ⟨z32, h⟩ := okB_el h
          cases h
          exact c_zret hC hP hS z32 rfl dL_isCovering_179
  refine m_entry (Nat.le_of_ble_eq_true rfl) (fun ls hl => ?_)
  have hl : lv_has ls 8 [(0, .ref a1), (1, .int a2), (2, .int a3)] := hl
  unfold f_L_isCovering at h
  refine lv_aload_n hx hb dL_isCovering_0 rfl (lv_at hl 0 rfl) ?_
  refine lv_iload_n hx hb dL_isCovering_1 rfl (lv_at hl 1 rfl) ?_
  obtain ⟨t2, e1, h⟩ := cal_el h
  refine c_SL (As := [.ref a1, .int a2]) (rest := []) hC hP hS (m_L_dx l G F S D a1 a2 t2 e1) (va_cwS 2 hts (gSA wa_231 wa_232 wa_233 wa_201 (fun w h => h)) rfl rfl rfl (by decide +kernel) ⟨Nat.le_of_ble_eq_true rfl, Nat.le_of_ble_eq_true rfl⟩) rfl hl.1 rfl (Nat.le_of_ble_eq_true rfl) dL_isCovering_2 (fun H locs hP hS => ?_)
  refine lv_aload_n hx hb dL_isCovering_5 rfl (lv_at hl 0 rfl) ?_
  refine lv_iload_n hx hb dL_isCovering_6 rfl (lv_at hl 2 rfl) ?_
  obtain ⟨t4, e3, h⟩ := cal_el h
  refine c_SL (As := [.ref a1, .int a3]) (rest := [.long t2]) hC hP hS (m_L_dy l G F S D a1 a3 t4 e3) (va_cwS 2 hts (gSA wa_234 wa_235 wa_233 wa_202 (fun w h => h)) rfl rfl rfl (by decide +kernel) ⟨Nat.le_of_ble_eq_true rfl, Nat.le_of_ble_eq_true rfl⟩) rfl hl.1 rfl (Nat.le_of_ble_eq_true rfl) dL_isCovering_7 (fun H locs hP hS => ?_)
  refine lv_lmul hx hb dL_isCovering_10 ?_
  refine lv_aload_n hx hb dL_isCovering_11 rfl (lv_at hl 0 rfl) ?_
  refine lv_iload_n hx hb dL_isCovering_12 rfl (lv_at hl 1 rfl) ?_
  obtain ⟨t6, e5, h⟩ := cal_el h
  refine c_SL (As := [.ref a1, .int a2]) (rest := [.long (t2 * t4)]) hC hP hS (m_L_dy l G F S D a1 a2 t6 e5) (va_cwS 2 hts (gSA wa_234 wa_235 wa_233 wa_202 (fun w h => h)) rfl rfl rfl (by decide +kernel) ⟨Nat.le_of_ble_eq_true rfl, Nat.le_of_ble_eq_true rfl⟩) rfl hl.1 rfl (Nat.le_of_ble_eq_true rfl) dL_isCovering_13 (fun H locs hP hS => ?_)
  refine lv_aload_n hx hb dL_isCovering_16 rfl (lv_at hl 0 rfl) ?_
  refine lv_iload_n hx hb dL_isCovering_17 rfl (lv_at hl 2 rfl) ?_
  obtain ⟨t8, e7, h⟩ := cal_el h
  refine c_SL (As := [.ref a1, .int a3]) (rest := [.long t6, .long (t2 * t4)]) hC hP hS (m_L_dx l G F S D a1 a3 t8 e7) (va_cwS 2 hts (gSA wa_231 wa_232 wa_233 wa_201 (fun w h => h)) rfl rfl rfl (by decide +kernel) ⟨Nat.le_of_ble_eq_true rfl, Nat.le_of_ble_eq_true rfl⟩) rfl hl.1 rfl (Nat.le_of_ble_eq_true rfl) dL_isCovering_18 (fun H locs hP hS => ?_)
  refine lv_lmul hx hb dL_isCovering_21 ?_
  refine W.lcmp hx hb dL_isCovering_22 ?_
  refine lv_if_ne (tgt := 74) hx hb dL_isCovering_23 (by decide) (fun u9 => ?_) (fun u9 => ?_)
  · have h := ite_f u9 h
    refine lv_iconst (v := 0) hx hb dL_isCovering_74 (by decide) ?_
    exact b75 _ _ _ a1 a2 a3 0 hP hS (lv_sub hl [0, 1, 2] rfl) h
  · have h := ite_t u9 h
    refine lv_aload_n hx hb dL_isCovering_26 rfl (lv_at hl 0 rfl) ?_
    refine lv_iload_n hx hb dL_isCovering_27 rfl (lv_at hl 1 rfl) ?_
    obtain ⟨t11, e10, h⟩ := cal_el h
    refine c_SL (As := [.ref a1, .int a2]) (rest := []) hC hP hS (m_L_dx l G F S D a1 a2 t11 e10) (va_cwS 2 hts (gSA wa_231 wa_232 wa_233 wa_201 (fun w h => h)) rfl rfl rfl (by decide +kernel) ⟨Nat.le_of_ble_eq_true rfl, Nat.le_of_ble_eq_true rfl⟩) rfl hl.1 rfl (Nat.le_of_ble_eq_true rfl) dL_isCovering_28 (fun H locs hP hS => ?_)
    refine lv_aload_n hx hb dL_isCovering_31 rfl (lv_at hl 0 rfl) ?_
    refine lv_iconst (v := 4) hx hb dL_isCovering_32 (by decide) ?_
    refine lv_iload_n hx hb dL_isCovering_33 rfl (lv_at hl 2 rfl) ?_
    refine lv_imul hx hb dL_isCovering_34 ?_
    refine lv_iconst (v := 1) hx hb dL_isCovering_35 (by decide) ?_
    refine lv_iadd hx hb dL_isCovering_36 ?_
    obtain ⟨z12, h⟩ := ckK_el h
    obtain ⟨y14, t13, e15, h⟩ := rdI_el h
    refine c_ild hC hP z12.1 z12.2 y14 e15 dL_isCovering_37 ?_
    refine lv_aload_n hx hb dL_isCovering_38 rfl (lv_at hl 0 rfl) ?_
    refine lv_iconst (v := 4) hx hb dL_isCovering_39 (by decide) ?_
    refine lv_iload_n hx hb dL_isCovering_40 rfl (lv_at hl 1 rfl) ?_
    refine lv_imul hx hb dL_isCovering_41 ?_
    refine lv_iconst (v := 1) hx hb dL_isCovering_42 (by decide) ?_
    refine lv_iadd hx hb dL_isCovering_43 ?_
    obtain ⟨y17, t16, e18, h⟩ := rdI_el h
    refine c_ild hC hP z12.1 z12.2 y17 e18 dL_isCovering_44 ?_
    refine lv_isub hx hb dL_isCovering_45 ?_
    refine lv_i2l (v := (t13 - t16).toInt64) hx hb dL_isCovering_46 rfl ?_
    refine lv_lmul hx hb dL_isCovering_47 ?_
    refine lv_aload_n hx hb dL_isCovering_48 rfl (lv_at hl 0 rfl) ?_
    refine lv_iload_n hx hb dL_isCovering_49 rfl (lv_at hl 1 rfl) ?_
    obtain ⟨t20, e19, h⟩ := cal_el h
    refine c_SL (As := [.ref a1, .int a2]) (rest := [.long (t11 * ((t13 - t16).toInt64))]) hC hP hS (m_L_dy l G F S D a1 a2 t20 e19) (va_cwS 2 hts (gSA wa_234 wa_235 wa_233 wa_202 (fun w h => h)) rfl rfl rfl (by decide +kernel) ⟨Nat.le_of_ble_eq_true rfl, Nat.le_of_ble_eq_true rfl⟩) rfl hl.1 rfl (Nat.le_of_ble_eq_true rfl) dL_isCovering_50 (fun H locs hP hS => ?_)
    refine lv_aload_n hx hb dL_isCovering_53 rfl (lv_at hl 0 rfl) ?_
    refine lv_iconst (v := 4) hx hb dL_isCovering_54 (by decide) ?_
    refine lv_iload_n hx hb dL_isCovering_55 rfl (lv_at hl 2 rfl) ?_
    refine lv_imul hx hb dL_isCovering_56 ?_
    obtain ⟨y22, t21, e23, h⟩ := rdI_el h
    refine c_ild hC hP z12.1 z12.2 y22 e23 dL_isCovering_57 ?_
    refine lv_aload_n hx hb dL_isCovering_58 rfl (lv_at hl 0 rfl) ?_
    refine lv_iconst (v := 4) hx hb dL_isCovering_59 (by decide) ?_
    refine lv_iload_n hx hb dL_isCovering_60 rfl (lv_at hl 1 rfl) ?_
    refine lv_imul hx hb dL_isCovering_61 ?_
    obtain ⟨y25, t24, e26, h⟩ := rdI_el h
    refine c_ild hC hP z12.1 z12.2 y25 e26 dL_isCovering_62 ?_
    refine lv_isub hx hb dL_isCovering_63 ?_
    refine lv_i2l (v := (t21 - t24).toInt64) hx hb dL_isCovering_64 rfl ?_
    refine lv_lmul hx hb dL_isCovering_65 ?_
    refine W.lcmp hx hb dL_isCovering_66 ?_
    refine lv_if_ne (tgt := 74) hx hb dL_isCovering_67 (by decide) (fun u27 => ?_) (fun u27 => ?_)
    · have h := ite_f u27 h
      refine lv_iconst (v := 0) hx hb dL_isCovering_74 (by decide) ?_
      exact b75 _ _ _ a1 a2 a3 0 hP hS (lv_sub hl [0, 1, 2] rfl) h
    · have h := ite_t u27 h
      refine lv_iconst (v := 1) hx hb dL_isCovering_70 (by decide) ?_
      refine lv_goto (tgt := 75) hx hb dL_isCovering_71 (by decide) ?_
      exact b75 _ _ _ a1 a2 a3 1 hP hS (lv_sub hl [0, 1, 2] rfl) h

theorem dL_isLowest_0 : decode cL_isLowest 0 = .ok (.iload_n 0, 1) := by decide +kernel
theorem dL_isLowest_1 : decode cL_isLowest 1 = .ok (.istore_n 2, 1) := by decide +kernel
theorem dL_isLowest_2 : decode cL_isLowest 2 = .ok (.iload_n 1, 1) := by decide +kernel
theorem dL_isLowest_3 : decode cL_isLowest 3 = .ok (.istore_n 3, 1) := by decide +kernel
theorem dL_isLowest_4 : decode cL_isLowest 4 = .ok (.iload_n 3, 1) := by decide +kernel
theorem dL_isLowest_5 : decode cL_isLowest 5 = .ok (.ifCond .le 16, 3) := by decide +kernel
theorem dL_isLowest_8 : decode cL_isLowest 8 = .ok (.iload_n 2, 1) := by decide +kernel
theorem dL_isLowest_9 : decode cL_isLowest 9 = .ok (.iload_n 3, 1) := by decide +kernel
theorem dL_isLowest_10 : decode cL_isLowest 10 = .ok (.irem, 1) := by decide +kernel
theorem dL_isLowest_11 : decode cL_isLowest 11 = .ok (.istore 4, 2) := by decide +kernel
theorem dL_isLowest_13 : decode cL_isLowest 13 = .ok (.iload_n 3, 1) := by decide +kernel
theorem dL_isLowest_14 : decode cL_isLowest 14 = .ok (.istore_n 2, 1) := by decide +kernel
theorem dL_isLowest_15 : decode cL_isLowest 15 = .ok (.iload 4, 2) := by decide +kernel
theorem dL_isLowest_17 : decode cL_isLowest 17 = .ok (.istore_n 3, 1) := by decide +kernel
theorem dL_isLowest_18 : decode cL_isLowest 18 = .ok (.goto (-14), 3) := by decide +kernel
theorem dL_isLowest_21 : decode cL_isLowest 21 = .ok (.iload_n 2, 1) := by decide +kernel
theorem dL_isLowest_22 : decode cL_isLowest 22 = .ok (.iconst 1, 1) := by decide +kernel
theorem dL_isLowest_23 : decode cL_isLowest 23 = .ok (.if_icmp .ne 23, 3) := by decide +kernel
theorem dL_isLowest_26 : decode cL_isLowest 26 = .ok (.iload_n 1, 1) := by decide +kernel
theorem dL_isLowest_27 : decode cL_isLowest 27 = .ok (.ifCond .le 19, 3) := by decide +kernel
theorem dL_isLowest_30 : decode cL_isLowest 30 = .ok (.iload_n 0, 1) := by decide +kernel
theorem dL_isLowest_31 : decode cL_isLowest 31 = .ok (.ifCond .lt 15, 3) := by decide +kernel
theorem dL_isLowest_34 : decode cL_isLowest 34 = .ok (.iload_n 0, 1) := by decide +kernel
theorem dL_isLowest_35 : decode cL_isLowest 35 = .ok (.bipush 100, 2) := by decide +kernel
theorem dL_isLowest_37 : decode cL_isLowest 37 = .ok (.iload_n 1, 1) := by decide +kernel
theorem dL_isLowest_38 : decode cL_isLowest 38 = .ok (.imul, 1) := by decide +kernel
theorem dL_isLowest_39 : decode cL_isLowest 39 = .ok (.if_icmp .gt 7, 3) := by decide +kernel
theorem dL_isLowest_42 : decode cL_isLowest 42 = .ok (.iconst 1, 1) := by decide +kernel
theorem dL_isLowest_43 : decode cL_isLowest 43 = .ok (.goto 4, 3) := by decide +kernel
theorem dL_isLowest_46 : decode cL_isLowest 46 = .ok (.iconst 0, 1) := by decide +kernel
theorem dL_isLowest_47 : decode cL_isLowest 47 = .ok (.ireturn, 1) := by decide +kernel
def wL_isLowest : List Cond := Cond.code yL_isLowest cL_isLowest 5 (some .boolean) :: WA
def f_L_isLowest_L4 (F : Nat) (S : CS) (D : CD) : Nat → Int32 → Int32 → Int32 → Int32 → Option Int32
  | 0, _, _, _, _ => none
  | n4 + 1, x0, x1, x2, x3 => (if x3 ≤ 0 then (if x2 = 1 then (if x1 ≤ 0 then okB 0 (some 0) else (if x0 < 0 then okB 0 (some 0) else (if (100 * x1) < x0 then okB 0 (some 0) else okB 1 (some 1)))) else okB 0 (some 0)) else dvI x3 <| (f_L_isLowest_L4 F S D n4) x0 x1 x3 (x2 - x2 / x3 * x3))
def f_L_isLowest (F : Nat) (S : CS) (D : CD) (a1 : Int32) (a2 : Int32) : Option Int32 := f_L_isLowest_L4 F S D F a1 a2 a1 a2
set_option maxRecDepth 100000 in
set_option maxHeartbeats 4000000 in
theorem m_L_isLowest (l : Launch) (G : cG) (F : Nat) (S : CS) (D : CD) (a1 : Int32) (a2 : Int32) (r : Int32) (h : f_L_isLowest F S D a1 a2 = some r) : cMI l yL_isLowest wL_isLowest ({ frames := 0, cells := 0, slots := 0, locals := 0 }) G S [.int a1, .int a2] D D r := by
  refine cBodyI (cc := cL_isLowest) (maxL := 5) (ret := (some .boolean)) (own := RL) (by decide) rfl rfl ?_
  intro sz p e s m below meth c hC hP
  skip
  have hC0 := hC
  obtain ⟨hx, hb, -, hts, hown, -, hml, -, -, -⟩ := hC0
  have hS : va_S (cA G S sz) s.heap s.heap [] := va_S.rf
  have L4 : ∀ (n4 : Nat) (H : Heap) (locs : List Loc) (ls : Array Slot) (x0 : Int32) (x1 : Int32) (x2 : Int32) (x3 : Int32), va_P G.1 vwCl (cW G S D) H → va_S (cA G S sz) s.heap H locs → lv_has ls 5 [(0, .int x0), (1, .int x1), (2, .int x2), (3, .int x3)] → f_L_isLowest_L4 F S D n4 x0 x1 x2 x3 = some r → W p l e (headSpec wL_isLowest ({ frames := 0, cells := 0, slots := 0, locals := 0 })).room s m ([.int a1, .int a2] : List Value).toArray below meth c H locs 0 0 (cQI below G S D sz ([.int a1, .int a2] : List Value).toArray s r) (F0 m 4 ls []) := by
    intro n4
    induction n4 with
    | zero =>
      intro H locs ls x0 x1 x2 x3 hP hS hl h
      rw [f_L_isLowest_L4] at h; cases h
    | succ n4 ih4 =>
      intro H locs ls x0 x1 x2 x3 hP hS hl h
      rw [f_L_isLowest_L4] at h
      refine lv_iload_n hx hb dL_isLowest_4 rfl (lv_at hl 3 rfl) ?_
      refine lv_if_le (tgt := 21) hx hb dL_isLowest_5 (by decide) (fun u1 => ?_) (fun u1 => ?_)
      · have h := ite_t u1 h
        refine lv_iload_n hx hb dL_isLowest_21 rfl (lv_at hl 2 rfl) ?_
        refine lv_iconst (v := 1) hx hb dL_isLowest_22 (by decide) ?_
        refine lv_icmp_ne (tgt := 46) hx hb dL_isLowest_23 (by decide) (fun u2 => ?_) (fun u2 => ?_)
        · have h := ite_f u2 h
          refine lv_iconst (v := 0) hx hb dL_isLowest_46 (by decide) ?_
          obtain ⟨z3, h⟩ := okB_el h
          cases h
          exact c_zret hC hP hS z3 rfl dL_isLowest_47
        · have h := ite_t u2 h
          refine lv_iload_n hx hb dL_isLowest_26 rfl (lv_at hl 1 rfl) ?_
          refine lv_if_le (tgt := 46) hx hb dL_isLowest_27 (by decide) (fun u4 => ?_) (fun u4 => ?_)
          · have h := ite_t u4 h
            refine lv_iconst (v := 0) hx hb dL_isLowest_46 (by decide) ?_
            obtain ⟨z5, h⟩ := okB_el h
            cases h
            exact c_zret hC hP hS z5 rfl dL_isLowest_47
          · have h := ite_f u4 h
            refine lv_iload_n hx hb dL_isLowest_30 rfl (lv_at hl 0 rfl) ?_
            refine lv_if_lt (tgt := 46) hx hb dL_isLowest_31 (by decide) (fun u6 => ?_) (fun u6 => ?_)
            · have h := ite_t u6 h
              refine lv_iconst (v := 0) hx hb dL_isLowest_46 (by decide) ?_
              obtain ⟨z7, h⟩ := okB_el h
              cases h
              exact c_zret hC hP hS z7 rfl dL_isLowest_47
            · have h := ite_f u6 h
              refine lv_iload_n hx hb dL_isLowest_34 rfl (lv_at hl 0 rfl) ?_
              refine lv_bipush (v := 100) hx hb dL_isLowest_35 (by decide) ?_
              refine lv_iload_n hx hb dL_isLowest_37 rfl (lv_at hl 1 rfl) ?_
              refine lv_imul hx hb dL_isLowest_38 ?_
              refine lv_icmp_gt (tgt := 46) hx hb dL_isLowest_39 (by decide) (fun u8 => ?_) (fun u8 => ?_)
              · have h := ite_t u8 h
                refine lv_iconst (v := 0) hx hb dL_isLowest_46 (by decide) ?_
                obtain ⟨z9, h⟩ := okB_el h
                cases h
                exact c_zret hC hP hS z9 rfl dL_isLowest_47
              · have h := ite_f u8 h
                refine lv_iconst (v := 1) hx hb dL_isLowest_42 (by decide) ?_
                refine lv_goto (tgt := 47) hx hb dL_isLowest_43 (by decide) ?_
                obtain ⟨z10, h⟩ := okB_el h
                cases h
                exact c_zret hC hP hS z10 rfl dL_isLowest_47
      · have h := ite_f u1 h
        refine lv_iload_n hx hb dL_isLowest_8 rfl (lv_at hl 2 rfl) ?_
        refine lv_iload_n hx hb dL_isLowest_9 rfl (lv_at hl 3 rfl) ?_
        obtain ⟨z11, h⟩ := dvI_el h
        refine lv_irem hx hb dL_isLowest_10 z11 ?_
        refine lv_istore (lv' := [(4, .int (x2 - x2 / x3 * x3)), (0, .int x0), (1, .int x1), (2, .int x2), (3, .int x3)]) hx hb dL_isLowest_11 hl (by decide) rfl (fun ls hl => ?_)
        refine lv_iload_n hx hb dL_isLowest_13 rfl (lv_at hl 4 rfl) ?_
        refine lv_istore_n (lv' := [(2, .int x3), (4, .int (x2 - x2 / x3 * x3)), (0, .int x0), (1, .int x1), (3, .int x3)]) hx hb dL_isLowest_14 rfl hl (by decide) rfl (fun ls hl => ?_)
        refine lv_iload hx hb dL_isLowest_15 (lv_at hl 1 rfl) ?_
        refine lv_istore_n (lv' := [(3, .int (x2 - x2 / x3 * x3)), (2, .int x3), (4, .int (x2 - x2 / x3 * x3)), (0, .int x0), (1, .int x1)]) hx hb dL_isLowest_17 rfl hl (by decide) rfl (fun ls hl => ?_)
        refine lv_goto (tgt := 4) hx hb dL_isLowest_18 (by decide) ?_
        exact ih4 _ _ _ x0 x1 x3 (x2 - x2 / x3 * x3) hP hS (lv_sub hl [3, 4, 1, 0] rfl) h
  refine m_entry (Nat.le_of_ble_eq_true rfl) (fun ls hl => ?_)
  have hl : lv_has ls 5 [(0, .int a1), (1, .int a2)] := hl
  unfold f_L_isLowest at h
  refine lv_iload_n hx hb dL_isLowest_0 rfl (lv_at hl 0 rfl) ?_
  refine lv_istore_n (lv' := [(2, .int a1), (0, .int a1), (1, .int a2)]) hx hb dL_isLowest_1 rfl hl (by decide) rfl (fun ls hl => ?_)
  refine lv_iload_n hx hb dL_isLowest_2 rfl (lv_at hl 2 rfl) ?_
  refine lv_istore_n (lv' := [(3, .int a2), (2, .int a1), (0, .int a1), (1, .int a2)]) hx hb dL_isLowest_3 rfl hl (by decide) rfl (fun ls hl => ?_)
  exact L4 F _ _ _ a1 a2 a1 a2 hP hS (lv_sub hl [2, 3, 1, 0] rfl) h

theorem dL_isOn_0 : decode cL_isOn 0 = .ok (.aload_n 0, 1) := by decide +kernel
theorem dL_isOn_1 : decode cL_isOn 1 = .ok (.iload_n 3, 1) := by decide +kernel
theorem dL_isOn_2 : decode cL_isOn 2 = .ok (.invokevirtual 23, 3) := by decide +kernel
theorem dL_isOn_5 : decode cL_isOn 5 = .ok (.i2l, 1) := by decide +kernel
theorem dL_isOn_6 : decode cL_isOn 6 = .ok (.lstore 4, 2) := by decide +kernel
theorem dL_isOn_8 : decode cL_isOn 8 = .ok (.aload_n 0, 1) := by decide +kernel
theorem dL_isOn_9 : decode cL_isOn 9 = .ok (.iload_n 3, 1) := by decide +kernel
theorem dL_isOn_10 : decode cL_isOn 10 = .ok (.invokevirtual 26, 3) := by decide +kernel
theorem dL_isOn_13 : decode cL_isOn 13 = .ok (.i2l, 1) := by decide +kernel
theorem dL_isOn_14 : decode cL_isOn 14 = .ok (.lstore 6, 2) := by decide +kernel
theorem dL_isOn_16 : decode cL_isOn 16 = .ok (.aload_n 0, 1) := by decide +kernel
theorem dL_isOn_17 : decode cL_isOn 17 = .ok (.iload_n 3, 1) := by decide +kernel
theorem dL_isOn_18 : decode cL_isOn 18 = .ok (.invokevirtual 29, 3) := by decide +kernel
theorem dL_isOn_21 : decode cL_isOn 21 = .ok (.i2l, 1) := by decide +kernel
theorem dL_isOn_22 : decode cL_isOn 22 = .ok (.lstore 8, 2) := by decide +kernel
theorem dL_isOn_24 : decode cL_isOn 24 = .ok (.aload_n 0, 1) := by decide +kernel
theorem dL_isOn_25 : decode cL_isOn 25 = .ok (.iload_n 3, 1) := by decide +kernel
theorem dL_isOn_26 : decode cL_isOn 26 = .ok (.invokevirtual 32, 3) := by decide +kernel
theorem dL_isOn_29 : decode cL_isOn 29 = .ok (.i2l, 1) := by decide +kernel
theorem dL_isOn_30 : decode cL_isOn 30 = .ok (.lstore 10, 2) := by decide +kernel
theorem dL_isOn_32 : decode cL_isOn 32 = .ok (.aload_n 1, 1) := by decide +kernel
theorem dL_isOn_33 : decode cL_isOn 33 = .ok (.iconst 4, 1) := by decide +kernel
theorem dL_isOn_34 : decode cL_isOn 34 = .ok (.iload_n 2, 1) := by decide +kernel
theorem dL_isOn_35 : decode cL_isOn 35 = .ok (.imul, 1) := by decide +kernel
theorem dL_isOn_36 : decode cL_isOn 36 = .ok (.iconst 1, 1) := by decide +kernel
theorem dL_isOn_37 : decode cL_isOn 37 = .ok (.iadd, 1) := by decide +kernel
theorem dL_isOn_38 : decode cL_isOn 38 = .ok (.iaload, 1) := by decide +kernel
theorem dL_isOn_39 : decode cL_isOn 39 = .ok (.aload_n 1, 1) := by decide +kernel
theorem dL_isOn_40 : decode cL_isOn 40 = .ok (.iconst 4, 1) := by decide +kernel
theorem dL_isOn_41 : decode cL_isOn 41 = .ok (.iload_n 2, 1) := by decide +kernel
theorem dL_isOn_42 : decode cL_isOn 42 = .ok (.imul, 1) := by decide +kernel
theorem dL_isOn_43 : decode cL_isOn 43 = .ok (.iconst 3, 1) := by decide +kernel
theorem dL_isOn_44 : decode cL_isOn 44 = .ok (.iadd, 1) := by decide +kernel
theorem dL_isOn_45 : decode cL_isOn 45 = .ok (.iaload, 1) := by decide +kernel
theorem dL_isOn_46 : decode cL_isOn 46 = .ok (.if_icmp .ge 13, 3) := by decide +kernel
theorem dL_isOn_49 : decode cL_isOn 49 = .ok (.aload_n 1, 1) := by decide +kernel
theorem dL_isOn_50 : decode cL_isOn 50 = .ok (.iconst 4, 1) := by decide +kernel
theorem dL_isOn_51 : decode cL_isOn 51 = .ok (.iload_n 2, 1) := by decide +kernel
theorem dL_isOn_52 : decode cL_isOn 52 = .ok (.imul, 1) := by decide +kernel
theorem dL_isOn_53 : decode cL_isOn 53 = .ok (.iconst 1, 1) := by decide +kernel
theorem dL_isOn_54 : decode cL_isOn 54 = .ok (.iadd, 1) := by decide +kernel
theorem dL_isOn_55 : decode cL_isOn 55 = .ok (.iaload, 1) := by decide +kernel
theorem dL_isOn_56 : decode cL_isOn 56 = .ok (.goto 10, 3) := by decide +kernel
theorem dL_isOn_59 : decode cL_isOn 59 = .ok (.aload_n 1, 1) := by decide +kernel
theorem dL_isOn_60 : decode cL_isOn 60 = .ok (.iconst 4, 1) := by decide +kernel
theorem dL_isOn_61 : decode cL_isOn 61 = .ok (.iload_n 2, 1) := by decide +kernel
theorem dL_isOn_62 : decode cL_isOn 62 = .ok (.imul, 1) := by decide +kernel
theorem dL_isOn_63 : decode cL_isOn 63 = .ok (.iconst 3, 1) := by decide +kernel
theorem dL_isOn_64 : decode cL_isOn 64 = .ok (.iadd, 1) := by decide +kernel
theorem dL_isOn_65 : decode cL_isOn 65 = .ok (.iaload, 1) := by decide +kernel
theorem dL_isOn_66 : decode cL_isOn 66 = .ok (.istore 12, 2) := by decide +kernel
theorem dL_isOn_68 : decode cL_isOn 68 = .ok (.aload_n 1, 1) := by decide +kernel
theorem dL_isOn_69 : decode cL_isOn 69 = .ok (.iconst 4, 1) := by decide +kernel
theorem dL_isOn_70 : decode cL_isOn 70 = .ok (.iload_n 2, 1) := by decide +kernel
theorem dL_isOn_71 : decode cL_isOn 71 = .ok (.imul, 1) := by decide +kernel
theorem dL_isOn_72 : decode cL_isOn 72 = .ok (.iconst 1, 1) := by decide +kernel
theorem dL_isOn_73 : decode cL_isOn 73 = .ok (.iadd, 1) := by decide +kernel
theorem dL_isOn_74 : decode cL_isOn 74 = .ok (.iaload, 1) := by decide +kernel
theorem dL_isOn_75 : decode cL_isOn 75 = .ok (.aload_n 1, 1) := by decide +kernel
theorem dL_isOn_76 : decode cL_isOn 76 = .ok (.iconst 4, 1) := by decide +kernel
theorem dL_isOn_77 : decode cL_isOn 77 = .ok (.iload_n 2, 1) := by decide +kernel
theorem dL_isOn_78 : decode cL_isOn 78 = .ok (.imul, 1) := by decide +kernel
theorem dL_isOn_79 : decode cL_isOn 79 = .ok (.iconst 3, 1) := by decide +kernel
theorem dL_isOn_80 : decode cL_isOn 80 = .ok (.iadd, 1) := by decide +kernel
theorem dL_isOn_81 : decode cL_isOn 81 = .ok (.iaload, 1) := by decide +kernel
theorem dL_isOn_82 : decode cL_isOn 82 = .ok (.iadd, 1) := by decide +kernel
theorem dL_isOn_83 : decode cL_isOn 83 = .ok (.iload 12, 2) := by decide +kernel
theorem dL_isOn_85 : decode cL_isOn 85 = .ok (.isub, 1) := by decide +kernel
theorem dL_isOn_86 : decode cL_isOn 86 = .ok (.istore 13, 2) := by decide +kernel
theorem dL_isOn_88 : decode cL_isOn 88 = .ok (.aload_n 1, 1) := by decide +kernel
theorem dL_isOn_89 : decode cL_isOn 89 = .ok (.iload_n 2, 1) := by decide +kernel
theorem dL_isOn_90 : decode cL_isOn 90 = .ok (.invokestatic 111, 3) := by decide +kernel
theorem dL_isOn_93 : decode cL_isOn 93 = .ok (.lload 8, 2) := by decide +kernel
theorem dL_isOn_95 : decode cL_isOn 95 = .ok (.aload_n 1, 1) := by decide +kernel
theorem dL_isOn_96 : decode cL_isOn 96 = .ok (.iconst 4, 1) := by decide +kernel
theorem dL_isOn_97 : decode cL_isOn 97 = .ok (.iload_n 2, 1) := by decide +kernel
theorem dL_isOn_98 : decode cL_isOn 98 = .ok (.imul, 1) := by decide +kernel
theorem dL_isOn_99 : decode cL_isOn 99 = .ok (.iconst 1, 1) := by decide +kernel
theorem dL_isOn_100 : decode cL_isOn 100 = .ok (.iadd, 1) := by decide +kernel
theorem dL_isOn_101 : decode cL_isOn 101 = .ok (.iaload, 1) := by decide +kernel
theorem dL_isOn_102 : decode cL_isOn 102 = .ok (.i2l, 1) := by decide +kernel
theorem dL_isOn_103 : decode cL_isOn 103 = .ok (.lload 10, 2) := by decide +kernel
theorem dL_isOn_105 : decode cL_isOn 105 = .ok (.lmul, 1) := by decide +kernel
theorem dL_isOn_106 : decode cL_isOn 106 = .ok (.lsub, 1) := by decide +kernel
theorem dL_isOn_107 : decode cL_isOn 107 = .ok (.lmul, 1) := by decide +kernel
theorem dL_isOn_108 : decode cL_isOn 108 = .ok (.lload 6, 2) := by decide +kernel
theorem dL_isOn_110 : decode cL_isOn 110 = .ok (.lmul, 1) := by decide +kernel
theorem dL_isOn_111 : decode cL_isOn 111 = .ok (.aload_n 1, 1) := by decide +kernel
theorem dL_isOn_112 : decode cL_isOn 112 = .ok (.iload_n 2, 1) := by decide +kernel
theorem dL_isOn_113 : decode cL_isOn 113 = .ok (.invokestatic 117, 3) := by decide +kernel
theorem dL_isOn_116 : decode cL_isOn 116 = .ok (.lload 4, 2) := by decide +kernel
theorem dL_isOn_118 : decode cL_isOn 118 = .ok (.aload_n 1, 1) := by decide +kernel
theorem dL_isOn_119 : decode cL_isOn 119 = .ok (.iconst 4, 1) := by decide +kernel
theorem dL_isOn_120 : decode cL_isOn 120 = .ok (.iload_n 2, 1) := by decide +kernel
theorem dL_isOn_121 : decode cL_isOn 121 = .ok (.imul, 1) := by decide +kernel
theorem dL_isOn_122 : decode cL_isOn 122 = .ok (.iaload, 1) := by decide +kernel
theorem dL_isOn_123 : decode cL_isOn 123 = .ok (.i2l, 1) := by decide +kernel
theorem dL_isOn_124 : decode cL_isOn 124 = .ok (.lload 6, 2) := by decide +kernel
theorem dL_isOn_126 : decode cL_isOn 126 = .ok (.lmul, 1) := by decide +kernel
theorem dL_isOn_127 : decode cL_isOn 127 = .ok (.lsub, 1) := by decide +kernel
theorem dL_isOn_128 : decode cL_isOn 128 = .ok (.lmul, 1) := by decide +kernel
theorem dL_isOn_129 : decode cL_isOn 129 = .ok (.lload 10, 2) := by decide +kernel
theorem dL_isOn_131 : decode cL_isOn 131 = .ok (.lmul, 1) := by decide +kernel
theorem dL_isOn_132 : decode cL_isOn 132 = .ok (.lcmp, 1) := by decide +kernel
theorem dL_isOn_133 : decode cL_isOn 133 = .ok (.ifCond .ne 63, 3) := by decide +kernel
theorem dL_isOn_136 : decode cL_isOn 136 = .ok (.lload 4, 2) := by decide +kernel
theorem dL_isOn_138 : decode cL_isOn 138 = .ok (.aload_n 1, 1) := by decide +kernel
theorem dL_isOn_139 : decode cL_isOn 139 = .ok (.iconst 4, 1) := by decide +kernel
theorem dL_isOn_140 : decode cL_isOn 140 = .ok (.iload_n 2, 1) := by decide +kernel
theorem dL_isOn_141 : decode cL_isOn 141 = .ok (.imul, 1) := by decide +kernel
theorem dL_isOn_142 : decode cL_isOn 142 = .ok (.iaload, 1) := by decide +kernel
theorem dL_isOn_143 : decode cL_isOn 143 = .ok (.i2l, 1) := by decide +kernel
theorem dL_isOn_144 : decode cL_isOn 144 = .ok (.lload 6, 2) := by decide +kernel
theorem dL_isOn_146 : decode cL_isOn 146 = .ok (.lmul, 1) := by decide +kernel
theorem dL_isOn_147 : decode cL_isOn 147 = .ok (.lcmp, 1) := by decide +kernel
theorem dL_isOn_148 : decode cL_isOn 148 = .ok (.ifCond .lt 48, 3) := by decide +kernel
theorem dL_isOn_151 : decode cL_isOn 151 = .ok (.lload 4, 2) := by decide +kernel
theorem dL_isOn_153 : decode cL_isOn 153 = .ok (.aload_n 1, 1) := by decide +kernel
theorem dL_isOn_154 : decode cL_isOn 154 = .ok (.iconst 4, 1) := by decide +kernel
theorem dL_isOn_155 : decode cL_isOn 155 = .ok (.iload_n 2, 1) := by decide +kernel
theorem dL_isOn_156 : decode cL_isOn 156 = .ok (.imul, 1) := by decide +kernel
theorem dL_isOn_157 : decode cL_isOn 157 = .ok (.iconst 2, 1) := by decide +kernel
theorem dL_isOn_158 : decode cL_isOn 158 = .ok (.iadd, 1) := by decide +kernel
theorem dL_isOn_159 : decode cL_isOn 159 = .ok (.iaload, 1) := by decide +kernel
theorem dL_isOn_160 : decode cL_isOn 160 = .ok (.i2l, 1) := by decide +kernel
theorem dL_isOn_161 : decode cL_isOn 161 = .ok (.lload 6, 2) := by decide +kernel
theorem dL_isOn_163 : decode cL_isOn 163 = .ok (.lmul, 1) := by decide +kernel
theorem dL_isOn_164 : decode cL_isOn 164 = .ok (.lcmp, 1) := by decide +kernel
theorem dL_isOn_165 : decode cL_isOn 165 = .ok (.ifCond .gt 31, 3) := by decide +kernel
theorem dL_isOn_168 : decode cL_isOn 168 = .ok (.lload 8, 2) := by decide +kernel
theorem dL_isOn_170 : decode cL_isOn 170 = .ok (.iload 12, 2) := by decide +kernel
theorem dL_isOn_172 : decode cL_isOn 172 = .ok (.i2l, 1) := by decide +kernel
theorem dL_isOn_173 : decode cL_isOn 173 = .ok (.lload 10, 2) := by decide +kernel
theorem dL_isOn_175 : decode cL_isOn 175 = .ok (.lmul, 1) := by decide +kernel
theorem dL_isOn_176 : decode cL_isOn 176 = .ok (.lcmp, 1) := by decide +kernel
theorem dL_isOn_177 : decode cL_isOn 177 = .ok (.ifCond .lt 19, 3) := by decide +kernel
theorem dL_isOn_180 : decode cL_isOn 180 = .ok (.lload 8, 2) := by decide +kernel
theorem dL_isOn_182 : decode cL_isOn 182 = .ok (.iload 13, 2) := by decide +kernel
theorem dL_isOn_184 : decode cL_isOn 184 = .ok (.i2l, 1) := by decide +kernel
theorem dL_isOn_185 : decode cL_isOn 185 = .ok (.lload 10, 2) := by decide +kernel
theorem dL_isOn_187 : decode cL_isOn 187 = .ok (.lmul, 1) := by decide +kernel
theorem dL_isOn_188 : decode cL_isOn 188 = .ok (.lcmp, 1) := by decide +kernel
theorem dL_isOn_189 : decode cL_isOn 189 = .ok (.ifCond .gt 7, 3) := by decide +kernel
theorem dL_isOn_192 : decode cL_isOn 192 = .ok (.iconst 1, 1) := by decide +kernel
theorem dL_isOn_193 : decode cL_isOn 193 = .ok (.goto 4, 3) := by decide +kernel
theorem dL_isOn_196 : decode cL_isOn 196 = .ok (.iconst 0, 1) := by decide +kernel
theorem dL_isOn_197 : decode cL_isOn 197 = .ok (.ireturn, 1) := by decide +kernel
def wL_isOn : List Cond := Cond.code yL_isOn cL_isOn 14 (some .boolean) :: WA
def f_L_isOn_b66 (F : Nat) (S : CS) (D : CD) (x1 : Nat) (x2 : Int32) (x4 : Int64) (x6 : Int64) (x8 : Int64) (x10 : Int64) (s0 : Int32) : Option Int32 := ckK S x1 8 <| rdI (S.2.2.2 x1) (D.2.2.1 x1) ((4 * x2) + 1) fun t2 => rdI (S.2.2.2 x1) (D.2.2.1 x1) ((4 * x2) + 3) fun t5 => cal (f_L_dx F S D x1 x2) fun t9 => rdI (S.2.2.2 x1) (D.2.2.1 x1) ((4 * x2) + 1) fun t10 => cal (f_L_dy F S D x1 x2) fun t14 => rdI (S.2.2.2 x1) (D.2.2.1 x1) (4 * x2) fun t15 => (if (lg_cmp ((t9 * (x8 - (t10.toInt64 * x10))) * x6) ((t14 * (x4 - (t15.toInt64 * x6))) * x10)) = 0 then rdI (S.2.2.2 x1) (D.2.2.1 x1) (4 * x2) fun t20 => (if (lg_cmp x4 (t20.toInt64 * x6)) < 0 then okB 0 (some 0) else rdI (S.2.2.2 x1) (D.2.2.1 x1) ((4 * x2) + 2) fun t25 => (if 0 < (lg_cmp x4 (t25.toInt64 * x6)) then okB 0 (some 0) else (if (lg_cmp x8 (s0.toInt64 * x10)) < 0 then okB 0 (some 0) else (if 0 < (lg_cmp x8 ((((t2 + t5) - s0).toInt64) * x10)) then okB 0 (some 0) else okB 1 (some 1))))) else okB 0 (some 0))
def f_L_isOn (F : Nat) (S : CS) (D : CD) (a1 : Nat) (a2 : Nat) (a3 : Int32) (a4 : Int32) : Option Int32 := ckK S a1 6 <| cal (f_X6_xNumerator F S D a1 a4) fun t3 => cal (f_X6_xDenominator F S D a1 a4) fun t5 => cal (f_X6_yNumerator F S D a1 a4) fun t7 => cal (f_X6_yDenominator F S D a1 a4) fun t9 => ckK S a2 8 <| rdI (S.2.2.2 a2) (D.2.2.1 a2) ((4 * a3) + 1) fun t11 => rdI (S.2.2.2 a2) (D.2.2.1 a2) ((4 * a3) + 3) fun t14 => (if t14 ≤ t11 then rdI (S.2.2.2 a2) (D.2.2.1 a2) ((4 * a3) + 3) fun t18 => f_L_isOn_b66 F S D a2 a3 t3.toInt64 t5.toInt64 t7.toInt64 t9.toInt64 t18 else rdI (S.2.2.2 a2) (D.2.2.1 a2) ((4 * a3) + 1) fun t21 => f_L_isOn_b66 F S D a2 a3 t3.toInt64 t5.toInt64 t7.toInt64 t9.toInt64 t21)
set_option maxRecDepth 100000 in
set_option maxHeartbeats 4000000 in
theorem m_L_isOn (l : Launch) (G : cG) (F : Nat) (S : CS) (D : CD) (a1 : Nat) (a2 : Nat) (a3 : Int32) (a4 : Int32) (r : Int32) (h : f_L_isOn F S D a1 a2 a3 a4 = some r) : cMI l yL_isOn wL_isOn ({ frames := 2, cells := 0, slots := 0, locals := 42 }) G S [.ref a1, .ref a2, .int a3, .int a4] D D r := by
  refine cBodyI (cc := cL_isOn) (maxL := 14) (ret := (some .boolean)) (own := RL) (by decide) rfl rfl ?_
  intro sz p e s m below meth c hC hP
  skip
  have hC0 := hC
  obtain ⟨hx, hb, -, hts, hown, -, hml, -, -, -⟩ := hC0
  have hS : va_S (cA G S sz) s.heap s.heap [] := va_S.rf
  have b66 : ∀ (H : Heap) (locs : List Loc) (ls : Array Slot) (x1 : Nat) (x2 : Int32) (x4 : Int64) (x6 : Int64) (x8 : Int64) (x10 : Int64) (s0 : Int32), va_P G.1 vwCl (cW G S D) H → va_S (cA G S sz) s.heap H locs → lv_has ls 14 [(1, .ref x1), (2, .int x2), (4, .long x4), (6, .long x6), (8, .long x8), (10, .long x10)] → f_L_isOn_b66 F S D x1 x2 x4 x6 x8 x10 s0 = some r → W p l e (headSpec wL_isOn ({ frames := 2, cells := 0, slots := 0, locals := 42 })).room s m ([.ref a1, .ref a2, .int a3, .int a4] : List Value).toArray below meth c H locs 0 0 (cQI below G S D sz ([.ref a1, .ref a2, .int a3, .int a4] : List Value).toArray s r) (F0 m 66 ls [.int s0]) := by
    intro H locs ls x1 x2 x4 x6 x8 x10 s0 hP hS hl h
    unfold f_L_isOn_b66 at h
    refine lv_istore (lv' := [(12, .int s0), (1, .ref x1), (2, .int x2), (4, .long x4), (6, .long x6), (8, .long x8), (10, .long x10)]) hx hb dL_isOn_66 hl (by decide) rfl (fun ls hl => ?_)
    refine lv_aload_n hx hb dL_isOn_68 rfl (lv_at hl 1 rfl) ?_
    refine lv_iconst (v := 4) hx hb dL_isOn_69 (by decide) ?_
    refine lv_iload_n hx hb dL_isOn_70 rfl (lv_at hl 2 rfl) ?_
    refine lv_imul hx hb dL_isOn_71 ?_
    refine lv_iconst (v := 1) hx hb dL_isOn_72 (by decide) ?_
    refine lv_iadd hx hb dL_isOn_73 ?_
    obtain ⟨z1, h⟩ := ckK_el h
    obtain ⟨y3, t2, e4, h⟩ := rdI_el h
    refine c_ild hC hP z1.1 z1.2 y3 e4 dL_isOn_74 ?_
    refine lv_aload_n hx hb dL_isOn_75 rfl (lv_at hl 1 rfl) ?_
    refine lv_iconst (v := 4) hx hb dL_isOn_76 (by decide) ?_
    refine lv_iload_n hx hb dL_isOn_77 rfl (lv_at hl 2 rfl) ?_
    refine lv_imul hx hb dL_isOn_78 ?_
    refine lv_iconst (v := 3) hx hb dL_isOn_79 (by decide) ?_
    refine lv_iadd hx hb dL_isOn_80 ?_
    obtain ⟨y6, t5, e7, h⟩ := rdI_el h
    refine c_ild hC hP z1.1 z1.2 y6 e7 dL_isOn_81 ?_
    refine lv_iadd hx hb dL_isOn_82 ?_
    refine lv_iload hx hb dL_isOn_83 (lv_at hl 0 rfl) ?_
    refine lv_isub hx hb dL_isOn_85 ?_
    refine lv_istore (lv' := [(13, .int ((t2 + t5) - s0)), (12, .int s0), (1, .ref x1), (2, .int x2), (4, .long x4), (6, .long x6), (8, .long x8), (10, .long x10)]) hx hb dL_isOn_86 hl (by decide) rfl (fun ls hl => ?_)
    refine lv_aload_n hx hb dL_isOn_88 rfl (lv_at hl 2 rfl) ?_
    refine lv_iload_n hx hb dL_isOn_89 rfl (lv_at hl 3 rfl) ?_
    obtain ⟨t9, e8, h⟩ := cal_el h
    refine c_SL (As := [.ref x1, .int x2]) (rest := []) hC hP hS (m_L_dx l G F S D x1 x2 t9 e8) (va_cwS 2 hts (gSA wa_231 wa_232 wa_233 wa_201 (fun w h => h)) rfl rfl rfl (by decide +kernel) ⟨Nat.le_of_ble_eq_true rfl, Nat.le_of_ble_eq_true rfl⟩) rfl hl.1 rfl (Nat.le_of_ble_eq_true rfl) dL_isOn_90 (fun H locs hP hS => ?_)
    refine lv_lload hx hb dL_isOn_93 (lv_at hl 6 rfl) ?_
    refine lv_aload_n hx hb dL_isOn_95 rfl (lv_at hl 2 rfl) ?_
    refine lv_iconst (v := 4) hx hb dL_isOn_96 (by decide) ?_
    refine lv_iload_n hx hb dL_isOn_97 rfl (lv_at hl 3 rfl) ?_
    refine lv_imul hx hb dL_isOn_98 ?_
    refine lv_iconst (v := 1) hx hb dL_isOn_99 (by decide) ?_
    refine lv_iadd hx hb dL_isOn_100 ?_
    obtain ⟨y11, t10, e12, h⟩ := rdI_el h
    refine c_ild hC hP z1.1 z1.2 y11 e12 dL_isOn_101 ?_
    refine lv_i2l (v := t10.toInt64) hx hb dL_isOn_102 rfl ?_
    refine lv_lload hx hb dL_isOn_103 (lv_at hl 7 rfl) ?_
    refine lv_lmul hx hb dL_isOn_105 ?_
    refine lv_lsub hx hb dL_isOn_106 ?_
    refine lv_lmul hx hb dL_isOn_107 ?_
    refine lv_lload hx hb dL_isOn_108 (lv_at hl 5 rfl) ?_
    refine lv_lmul hx hb dL_isOn_110 ?_
    refine lv_aload_n hx hb dL_isOn_111 rfl (lv_at hl 2 rfl) ?_
    refine lv_iload_n hx hb dL_isOn_112 rfl (lv_at hl 3 rfl) ?_
    obtain ⟨t14, e13, h⟩ := cal_el h
    refine c_SL (As := [.ref x1, .int x2]) (rest := [.long ((t9 * (x8 - (t10.toInt64 * x10))) * x6)]) hC hP hS (m_L_dy l G F S D x1 x2 t14 e13) (va_cwS 2 hts (gSA wa_234 wa_235 wa_233 wa_202 (fun w h => h)) rfl rfl rfl (by decide +kernel) ⟨Nat.le_of_ble_eq_true rfl, Nat.le_of_ble_eq_true rfl⟩) rfl hl.1 rfl (Nat.le_of_ble_eq_true rfl) dL_isOn_113 (fun H locs hP hS => ?_)
    refine lv_lload hx hb dL_isOn_116 (lv_at hl 4 rfl) ?_
    refine lv_aload_n hx hb dL_isOn_118 rfl (lv_at hl 2 rfl) ?_
    refine lv_iconst (v := 4) hx hb dL_isOn_119 (by decide) ?_
    refine lv_iload_n hx hb dL_isOn_120 rfl (lv_at hl 3 rfl) ?_
    refine lv_imul hx hb dL_isOn_121 ?_
    obtain ⟨y16, t15, e17, h⟩ := rdI_el h
    refine c_ild hC hP z1.1 z1.2 y16 e17 dL_isOn_122 ?_
    refine lv_i2l (v := t15.toInt64) hx hb dL_isOn_123 rfl ?_
    refine lv_lload hx hb dL_isOn_124 (lv_at hl 5 rfl) ?_
    refine lv_lmul hx hb dL_isOn_126 ?_
    refine lv_lsub hx hb dL_isOn_127 ?_
    refine lv_lmul hx hb dL_isOn_128 ?_
    refine lv_lload hx hb dL_isOn_129 (lv_at hl 7 rfl) ?_
    refine lv_lmul hx hb dL_isOn_131 ?_
    refine W.lcmp hx hb dL_isOn_132 ?_
    refine lv_if_ne (tgt := 196) hx hb dL_isOn_133 (by decide) (fun u18 => ?_) (fun u18 => ?_)
    · have h := ite_f u18 h
      refine lv_iconst (v := 0) hx hb dL_isOn_196 (by decide) ?_
      obtain ⟨z19, h⟩ := okB_el h
      cases h
      exact c_zret hC hP hS z19 rfl dL_isOn_197
    · have h := ite_t u18 h
      refine lv_lload hx hb dL_isOn_136 (lv_at hl 4 rfl) ?_
      refine lv_aload_n hx hb dL_isOn_138 rfl (lv_at hl 2 rfl) ?_
      refine lv_iconst (v := 4) hx hb dL_isOn_139 (by decide) ?_
      refine lv_iload_n hx hb dL_isOn_140 rfl (lv_at hl 3 rfl) ?_
      refine lv_imul hx hb dL_isOn_141 ?_
      obtain ⟨y21, t20, e22, h⟩ := rdI_el h
      refine c_ild hC hP z1.1 z1.2 y21 e22 dL_isOn_142 ?_
      refine lv_i2l (v := t20.toInt64) hx hb dL_isOn_143 rfl ?_
      refine lv_lload hx hb dL_isOn_144 (lv_at hl 5 rfl) ?_
      refine lv_lmul hx hb dL_isOn_146 ?_
      refine W.lcmp hx hb dL_isOn_147 ?_
      refine lv_if_lt (tgt := 196) hx hb dL_isOn_148 (by decide) (fun u23 => ?_) (fun u23 => ?_)
      · have h := ite_t u23 h
        refine lv_iconst (v := 0) hx hb dL_isOn_196 (by decide) ?_
        obtain ⟨z24, h⟩ := okB_el h
        cases h
        exact c_zret hC hP hS z24 rfl dL_isOn_197
      · have h := ite_f u23 h
        refine lv_lload hx hb dL_isOn_151 (lv_at hl 4 rfl) ?_
        refine lv_aload_n hx hb dL_isOn_153 rfl (lv_at hl 2 rfl) ?_
        refine lv_iconst (v := 4) hx hb dL_isOn_154 (by decide) ?_
        refine lv_iload_n hx hb dL_isOn_155 rfl (lv_at hl 3 rfl) ?_
        refine lv_imul hx hb dL_isOn_156 ?_
        refine lv_iconst (v := 2) hx hb dL_isOn_157 (by decide) ?_
        refine lv_iadd hx hb dL_isOn_158 ?_
        obtain ⟨y26, t25, e27, h⟩ := rdI_el h
        refine c_ild hC hP z1.1 z1.2 y26 e27 dL_isOn_159 ?_
        refine lv_i2l (v := t25.toInt64) hx hb dL_isOn_160 rfl ?_
        refine lv_lload hx hb dL_isOn_161 (lv_at hl 5 rfl) ?_
        refine lv_lmul hx hb dL_isOn_163 ?_
        refine W.lcmp hx hb dL_isOn_164 ?_
        refine lv_if_gt (tgt := 196) hx hb dL_isOn_165 (by decide) (fun u28 => ?_) (fun u28 => ?_)
        · have h := ite_t u28 h
          refine lv_iconst (v := 0) hx hb dL_isOn_196 (by decide) ?_
          obtain ⟨z29, h⟩ := okB_el h
          cases h
          exact c_zret hC hP hS z29 rfl dL_isOn_197
        · have h := ite_f u28 h
          refine lv_lload hx hb dL_isOn_168 (lv_at hl 6 rfl) ?_
          refine lv_iload hx hb dL_isOn_170 (lv_at hl 1 rfl) ?_
          refine lv_i2l (v := s0.toInt64) hx hb dL_isOn_172 rfl ?_
          refine lv_lload hx hb dL_isOn_173 (lv_at hl 7 rfl) ?_
          refine lv_lmul hx hb dL_isOn_175 ?_
          refine W.lcmp hx hb dL_isOn_176 ?_
          refine lv_if_lt (tgt := 196) hx hb dL_isOn_177 (by decide) (fun u30 => ?_) (fun u30 => ?_)
          · have h := ite_t u30 h
            refine lv_iconst (v := 0) hx hb dL_isOn_196 (by decide) ?_
            obtain ⟨z31, h⟩ := okB_el h
            cases h
            exact c_zret hC hP hS z31 rfl dL_isOn_197
          · have h := ite_f u30 h
            refine lv_lload hx hb dL_isOn_180 (lv_at hl 6 rfl) ?_
            refine lv_iload hx hb dL_isOn_182 (lv_at hl 0 rfl) ?_
            refine lv_i2l (v := ((t2 + t5) - s0).toInt64) hx hb dL_isOn_184 rfl ?_
            refine lv_lload hx hb dL_isOn_185 (lv_at hl 7 rfl) ?_
            refine lv_lmul hx hb dL_isOn_187 ?_
            refine W.lcmp hx hb dL_isOn_188 ?_
            refine lv_if_gt (tgt := 196) hx hb dL_isOn_189 (by decide) (fun u32 => ?_) (fun u32 => ?_)
            · have h := ite_t u32 h
              refine lv_iconst (v := 0) hx hb dL_isOn_196 (by decide) ?_
              obtain ⟨z33, h⟩ := okB_el h
              cases h
              exact c_zret hC hP hS z33 rfl dL_isOn_197
            · have h := ite_f u32 h
              refine lv_iconst (v := 1) hx hb dL_isOn_192 (by decide) ?_
              refine lv_goto (tgt := 197) hx hb dL_isOn_193 (by decide) ?_
              obtain ⟨z34, h⟩ := okB_el h
              cases h
              exact c_zret hC hP hS z34 rfl dL_isOn_197
  refine m_entry (Nat.le_of_ble_eq_true rfl) (fun ls hl => ?_)
  have hl : lv_has ls 14 [(0, .ref a1), (1, .ref a2), (2, .int a3), (3, .int a4)] := hl
  unfold f_L_isOn at h
  refine lv_aload_n hx hb dL_isOn_0 rfl (lv_at hl 0 rfl) ?_
  refine lv_iload_n hx hb dL_isOn_1 rfl (lv_at hl 3 rfl) ?_
  obtain ⟨z1, h⟩ := ckK_el h
  obtain ⟨t3, e2, h⟩ := cal_el h
  refine c_VI (As := [.int a4]) (rest := []) hC hP hS z1.1 (cE_6 z1.2) (C := RX6) (T := TX6) (N := 8) rfl (m_X6_xNumerator l G F S D a1 a4 t3 e2) (cwV 1 hts (gVA wa_152 wa_153 wa_154 (hWCA _ wc_66) (hWCA _ wc_85) hWCA) rfl rfl rfl (by decide +kernel) ⟨Nat.le_of_ble_eq_true rfl, Nat.le_of_ble_eq_true rfl⟩) rfl hl.1 rfl (Nat.le_of_ble_eq_true rfl) dL_isOn_2 (fun H locs hP hS => ?_)
  refine lv_i2l (v := t3.toInt64) hx hb dL_isOn_5 rfl ?_
  refine lv_lstore (lv' := [(4, .long t3.toInt64), (0, .ref a1), (1, .ref a2), (2, .int a3), (3, .int a4)]) hx hb dL_isOn_6 hl (by decide) rfl (fun ls hl => ?_)
  refine lv_aload_n hx hb dL_isOn_8 rfl (lv_at hl 1 rfl) ?_
  refine lv_iload_n hx hb dL_isOn_9 rfl (lv_at hl 4 rfl) ?_
  obtain ⟨t5, e4, h⟩ := cal_el h
  refine c_VI (As := [.int a4]) (rest := []) hC hP hS z1.1 (cE_6 z1.2) (C := RX6) (T := TX6) (N := 8) rfl (m_X6_xDenominator l G F S D a1 a4 t5 e4) (cwV 1 hts (gVA wa_155 wa_156 wa_157 (hWCA _ wc_66) (hWCA _ wc_93) hWCA) rfl rfl rfl (by decide +kernel) ⟨Nat.le_of_ble_eq_true rfl, Nat.le_of_ble_eq_true rfl⟩) rfl hl.1 rfl (Nat.le_of_ble_eq_true rfl) dL_isOn_10 (fun H locs hP hS => ?_)
  refine lv_i2l (v := t5.toInt64) hx hb dL_isOn_13 rfl ?_
  refine lv_lstore (lv' := [(6, .long t5.toInt64), (4, .long t3.toInt64), (0, .ref a1), (1, .ref a2), (2, .int a3), (3, .int a4)]) hx hb dL_isOn_14 hl (by decide) rfl (fun ls hl => ?_)
  refine lv_aload_n hx hb dL_isOn_16 rfl (lv_at hl 2 rfl) ?_
  refine lv_iload_n hx hb dL_isOn_17 rfl (lv_at hl 5 rfl) ?_
  obtain ⟨t7, e6, h⟩ := cal_el h
  refine c_VI (As := [.int a4]) (rest := []) hC hP hS z1.1 (cE_6 z1.2) (C := RX6) (T := TX6) (N := 8) rfl (m_X6_yNumerator l G F S D a1 a4 t7 e6) (cwV 1 hts (gVA wa_158 wa_159 wa_160 (hWCA _ wc_66) (hWCA _ wc_94) hWCA) rfl rfl rfl (by decide +kernel) ⟨Nat.le_of_ble_eq_true rfl, Nat.le_of_ble_eq_true rfl⟩) rfl hl.1 rfl (Nat.le_of_ble_eq_true rfl) dL_isOn_18 (fun H locs hP hS => ?_)
  refine lv_i2l (v := t7.toInt64) hx hb dL_isOn_21 rfl ?_
  refine lv_lstore (lv' := [(8, .long t7.toInt64), (6, .long t5.toInt64), (4, .long t3.toInt64), (0, .ref a1), (1, .ref a2), (2, .int a3), (3, .int a4)]) hx hb dL_isOn_22 hl (by decide) rfl (fun ls hl => ?_)
  refine lv_aload_n hx hb dL_isOn_24 rfl (lv_at hl 3 rfl) ?_
  refine lv_iload_n hx hb dL_isOn_25 rfl (lv_at hl 6 rfl) ?_
  obtain ⟨t9, e8, h⟩ := cal_el h
  refine c_VI (As := [.int a4]) (rest := []) hC hP hS z1.1 (cE_6 z1.2) (C := RX6) (T := TX6) (N := 8) rfl (m_X6_yDenominator l G F S D a1 a4 t9 e8) (cwV 1 hts (gVA wa_161 wa_162 wa_163 (hWCA _ wc_66) (hWCA _ wc_95) hWCA) rfl rfl rfl (by decide +kernel) ⟨Nat.le_of_ble_eq_true rfl, Nat.le_of_ble_eq_true rfl⟩) rfl hl.1 rfl (Nat.le_of_ble_eq_true rfl) dL_isOn_26 (fun H locs hP hS => ?_)
  refine lv_i2l (v := t9.toInt64) hx hb dL_isOn_29 rfl ?_
  refine lv_lstore (lv' := [(10, .long t9.toInt64), (8, .long t7.toInt64), (6, .long t5.toInt64), (4, .long t3.toInt64), (0, .ref a1), (1, .ref a2), (2, .int a3), (3, .int a4)]) hx hb dL_isOn_30 hl (by decide) rfl (fun ls hl => ?_)
  refine lv_aload_n hx hb dL_isOn_32 rfl (lv_at hl 5 rfl) ?_
  refine lv_iconst (v := 4) hx hb dL_isOn_33 (by decide) ?_
  refine lv_iload_n hx hb dL_isOn_34 rfl (lv_at hl 6 rfl) ?_
  refine lv_imul hx hb dL_isOn_35 ?_
  refine lv_iconst (v := 1) hx hb dL_isOn_36 (by decide) ?_
  refine lv_iadd hx hb dL_isOn_37 ?_
  obtain ⟨z10, h⟩ := ckK_el h
  obtain ⟨y12, t11, e13, h⟩ := rdI_el h
  refine c_ild hC hP z10.1 z10.2 y12 e13 dL_isOn_38 ?_
  refine lv_aload_n hx hb dL_isOn_39 rfl (lv_at hl 5 rfl) ?_
  refine lv_iconst (v := 4) hx hb dL_isOn_40 (by decide) ?_
  refine lv_iload_n hx hb dL_isOn_41 rfl (lv_at hl 6 rfl) ?_
  refine lv_imul hx hb dL_isOn_42 ?_
  refine lv_iconst (v := 3) hx hb dL_isOn_43 (by decide) ?_
  refine lv_iadd hx hb dL_isOn_44 ?_
  obtain ⟨y15, t14, e16, h⟩ := rdI_el h
  refine c_ild hC hP z10.1 z10.2 y15 e16 dL_isOn_45 ?_
  refine lv_icmp_ge (tgt := 59) hx hb dL_isOn_46 (by decide) (fun u17 => ?_) (fun u17 => ?_)
  · have h := ite_t u17 h
    refine lv_aload_n hx hb dL_isOn_59 rfl (lv_at hl 5 rfl) ?_
    refine lv_iconst (v := 4) hx hb dL_isOn_60 (by decide) ?_
    refine lv_iload_n hx hb dL_isOn_61 rfl (lv_at hl 6 rfl) ?_
    refine lv_imul hx hb dL_isOn_62 ?_
    refine lv_iconst (v := 3) hx hb dL_isOn_63 (by decide) ?_
    refine lv_iadd hx hb dL_isOn_64 ?_
    obtain ⟨y19, t18, e20, h⟩ := rdI_el h
    refine c_ild hC hP z10.1 z10.2 y19 e20 dL_isOn_65 ?_
    exact b66 _ _ _ a2 a3 t3.toInt64 t5.toInt64 t7.toInt64 t9.toInt64 t18 hP hS (lv_sub hl [5, 6, 3, 2, 1, 0] rfl) h
  · have h := ite_f u17 h
    refine lv_aload_n hx hb dL_isOn_49 rfl (lv_at hl 5 rfl) ?_
    refine lv_iconst (v := 4) hx hb dL_isOn_50 (by decide) ?_
    refine lv_iload_n hx hb dL_isOn_51 rfl (lv_at hl 6 rfl) ?_
    refine lv_imul hx hb dL_isOn_52 ?_
    refine lv_iconst (v := 1) hx hb dL_isOn_53 (by decide) ?_
    refine lv_iadd hx hb dL_isOn_54 ?_
    obtain ⟨y22, t21, e23, h⟩ := rdI_el h
    refine c_ild hC hP z10.1 z10.2 y22 e23 dL_isOn_55 ?_
    refine lv_goto (tgt := 66) hx hb dL_isOn_56 (by decide) ?_
    exact b66 _ _ _ a2 a3 t3.toInt64 t5.toInt64 t7.toInt64 t9.toInt64 t21 hP hS (lv_sub hl [5, 6, 3, 2, 1, 0] rfl) h

theorem dL_isEnd_0 : decode cL_isEnd 0 = .ok (.aload_n 0, 1) := by decide +kernel
theorem dL_isEnd_1 : decode cL_isEnd 1 = .ok (.iload_n 1, 1) := by decide +kernel
theorem dL_isEnd_2 : decode cL_isEnd 2 = .ok (.invokevirtual 23, 3) := by decide +kernel
theorem dL_isEnd_5 : decode cL_isEnd 5 = .ok (.iload_n 2, 1) := by decide +kernel
theorem dL_isEnd_6 : decode cL_isEnd 6 = .ok (.if_icmp .ne 34, 3) := by decide +kernel
theorem dL_isEnd_9 : decode cL_isEnd 9 = .ok (.aload_n 0, 1) := by decide +kernel
theorem dL_isEnd_10 : decode cL_isEnd 10 = .ok (.iload_n 1, 1) := by decide +kernel
theorem dL_isEnd_11 : decode cL_isEnd 11 = .ok (.invokevirtual 26, 3) := by decide +kernel
theorem dL_isEnd_14 : decode cL_isEnd 14 = .ok (.iconst 1, 1) := by decide +kernel
theorem dL_isEnd_15 : decode cL_isEnd 15 = .ok (.if_icmp .ne 25, 3) := by decide +kernel
theorem dL_isEnd_18 : decode cL_isEnd 18 = .ok (.aload_n 0, 1) := by decide +kernel
theorem dL_isEnd_19 : decode cL_isEnd 19 = .ok (.iload_n 1, 1) := by decide +kernel
theorem dL_isEnd_20 : decode cL_isEnd 20 = .ok (.invokevirtual 29, 3) := by decide +kernel
theorem dL_isEnd_23 : decode cL_isEnd 23 = .ok (.iload_n 3, 1) := by decide +kernel
theorem dL_isEnd_24 : decode cL_isEnd 24 = .ok (.if_icmp .ne 16, 3) := by decide +kernel
theorem dL_isEnd_27 : decode cL_isEnd 27 = .ok (.aload_n 0, 1) := by decide +kernel
theorem dL_isEnd_28 : decode cL_isEnd 28 = .ok (.iload_n 1, 1) := by decide +kernel
theorem dL_isEnd_29 : decode cL_isEnd 29 = .ok (.invokevirtual 32, 3) := by decide +kernel
theorem dL_isEnd_32 : decode cL_isEnd 32 = .ok (.iconst 1, 1) := by decide +kernel
theorem dL_isEnd_33 : decode cL_isEnd 33 = .ok (.if_icmp .ne 7, 3) := by decide +kernel
theorem dL_isEnd_36 : decode cL_isEnd 36 = .ok (.iconst 1, 1) := by decide +kernel
theorem dL_isEnd_37 : decode cL_isEnd 37 = .ok (.goto 4, 3) := by decide +kernel
theorem dL_isEnd_40 : decode cL_isEnd 40 = .ok (.iconst 0, 1) := by decide +kernel
theorem dL_isEnd_41 : decode cL_isEnd 41 = .ok (.ireturn, 1) := by decide +kernel
def wL_isEnd : List Cond := Cond.code yL_isEnd cL_isEnd 4 (some .boolean) :: WA
def f_L_isEnd (F : Nat) (S : CS) (D : CD) (a1 : Nat) (a2 : Int32) (a3 : Int32) (a4 : Int32) : Option Int32 := ckK S a1 6 <| cal (f_X6_xNumerator F S D a1 a2) fun t3 => (if t3 = a3 then cal (f_X6_xDenominator F S D a1 a2) fun t7 => (if t7 = 1 then cal (f_X6_yNumerator F S D a1 a2) fun t11 => (if t11 = a4 then cal (f_X6_yDenominator F S D a1 a2) fun t15 => (if t15 = 1 then okB 1 (some 1) else okB 0 (some 0)) else okB 0 (some 0)) else okB 0 (some 0)) else okB 0 (some 0))
set_option maxRecDepth 100000 in
set_option maxHeartbeats 4000000 in
theorem m_L_isEnd (l : Launch) (G : cG) (F : Nat) (S : CS) (D : CD) (a1 : Nat) (a2 : Int32) (a3 : Int32) (a4 : Int32) (r : Int32) (h : f_L_isEnd F S D a1 a2 a3 a4 = some r) : cMI l yL_isEnd wL_isEnd ({ frames := 2, cells := 0, slots := 0, locals := 42 }) G S [.ref a1, .int a2, .int a3, .int a4] D D r := by
  refine cBodyI (cc := cL_isEnd) (maxL := 4) (ret := (some .boolean)) (own := RL) (by decide) rfl rfl ?_
  intro sz p e s m below meth c hC hP
  skip
  have hC0 := hC
  obtain ⟨hx, hb, -, hts, hown, -, hml, -, -, -⟩ := hC0
  have hS : va_S (cA G S sz) s.heap s.heap [] := va_S.rf
  refine m_entry (Nat.le_of_ble_eq_true rfl) (fun ls hl => ?_)
  have hl : lv_has ls 4 [(0, .ref a1), (1, .int a2), (2, .int a3), (3, .int a4)] := hl
  unfold f_L_isEnd at h
  refine lv_aload_n hx hb dL_isEnd_0 rfl (lv_at hl 0 rfl) ?_
  refine lv_iload_n hx hb dL_isEnd_1 rfl (lv_at hl 1 rfl) ?_
  obtain ⟨z1, h⟩ := ckK_el h
  obtain ⟨t3, e2, h⟩ := cal_el h
  refine c_VI (As := [.int a2]) (rest := []) hC hP hS z1.1 (cE_6 z1.2) (C := RX6) (T := TX6) (N := 8) rfl (m_X6_xNumerator l G F S D a1 a2 t3 e2) (cwV 1 hts (gVA wa_152 wa_153 wa_154 (hWCA _ wc_66) (hWCA _ wc_85) hWCA) rfl rfl rfl (by decide +kernel) ⟨Nat.le_of_ble_eq_true rfl, Nat.le_of_ble_eq_true rfl⟩) rfl hl.1 rfl (Nat.le_of_ble_eq_true rfl) dL_isEnd_2 (fun H locs hP hS => ?_)
  refine lv_iload_n hx hb dL_isEnd_5 rfl (lv_at hl 2 rfl) ?_
  refine lv_icmp_ne (tgt := 40) hx hb dL_isEnd_6 (by decide) (fun u4 => ?_) (fun u4 => ?_)
  · have h := ite_f u4 h
    refine lv_iconst (v := 0) hx hb dL_isEnd_40 (by decide) ?_
    obtain ⟨z5, h⟩ := okB_el h
    cases h
    exact c_zret hC hP hS z5 rfl dL_isEnd_41
  · have h := ite_t u4 h
    refine lv_aload_n hx hb dL_isEnd_9 rfl (lv_at hl 0 rfl) ?_
    refine lv_iload_n hx hb dL_isEnd_10 rfl (lv_at hl 1 rfl) ?_
    obtain ⟨t7, e6, h⟩ := cal_el h
    refine c_VI (As := [.int a2]) (rest := []) hC hP hS z1.1 (cE_6 z1.2) (C := RX6) (T := TX6) (N := 8) rfl (m_X6_xDenominator l G F S D a1 a2 t7 e6) (cwV 1 hts (gVA wa_155 wa_156 wa_157 (hWCA _ wc_66) (hWCA _ wc_93) hWCA) rfl rfl rfl (by decide +kernel) ⟨Nat.le_of_ble_eq_true rfl, Nat.le_of_ble_eq_true rfl⟩) rfl hl.1 rfl (Nat.le_of_ble_eq_true rfl) dL_isEnd_11 (fun H locs hP hS => ?_)
    refine lv_iconst (v := 1) hx hb dL_isEnd_14 (by decide) ?_
    refine lv_icmp_ne (tgt := 40) hx hb dL_isEnd_15 (by decide) (fun u8 => ?_) (fun u8 => ?_)
    · have h := ite_f u8 h
      refine lv_iconst (v := 0) hx hb dL_isEnd_40 (by decide) ?_
      obtain ⟨z9, h⟩ := okB_el h
      cases h
      exact c_zret hC hP hS z9 rfl dL_isEnd_41
    · have h := ite_t u8 h
      refine lv_aload_n hx hb dL_isEnd_18 rfl (lv_at hl 0 rfl) ?_
      refine lv_iload_n hx hb dL_isEnd_19 rfl (lv_at hl 1 rfl) ?_
      obtain ⟨t11, e10, h⟩ := cal_el h
      refine c_VI (As := [.int a2]) (rest := []) hC hP hS z1.1 (cE_6 z1.2) (C := RX6) (T := TX6) (N := 8) rfl (m_X6_yNumerator l G F S D a1 a2 t11 e10) (cwV 1 hts (gVA wa_158 wa_159 wa_160 (hWCA _ wc_66) (hWCA _ wc_94) hWCA) rfl rfl rfl (by decide +kernel) ⟨Nat.le_of_ble_eq_true rfl, Nat.le_of_ble_eq_true rfl⟩) rfl hl.1 rfl (Nat.le_of_ble_eq_true rfl) dL_isEnd_20 (fun H locs hP hS => ?_)
      refine lv_iload_n hx hb dL_isEnd_23 rfl (lv_at hl 3 rfl) ?_
      refine lv_icmp_ne (tgt := 40) hx hb dL_isEnd_24 (by decide) (fun u12 => ?_) (fun u12 => ?_)
      · have h := ite_f u12 h
        refine lv_iconst (v := 0) hx hb dL_isEnd_40 (by decide) ?_
        obtain ⟨z13, h⟩ := okB_el h
        cases h
        exact c_zret hC hP hS z13 rfl dL_isEnd_41
      · have h := ite_t u12 h
        refine lv_aload_n hx hb dL_isEnd_27 rfl (lv_at hl 0 rfl) ?_
        refine lv_iload_n hx hb dL_isEnd_28 rfl (lv_at hl 1 rfl) ?_
        obtain ⟨t15, e14, h⟩ := cal_el h
        refine c_VI (As := [.int a2]) (rest := []) hC hP hS z1.1 (cE_6 z1.2) (C := RX6) (T := TX6) (N := 8) rfl (m_X6_yDenominator l G F S D a1 a2 t15 e14) (cwV 1 hts (gVA wa_161 wa_162 wa_163 (hWCA _ wc_66) (hWCA _ wc_95) hWCA) rfl rfl rfl (by decide +kernel) ⟨Nat.le_of_ble_eq_true rfl, Nat.le_of_ble_eq_true rfl⟩) rfl hl.1 rfl (Nat.le_of_ble_eq_true rfl) dL_isEnd_29 (fun H locs hP hS => ?_)
        refine lv_iconst (v := 1) hx hb dL_isEnd_32 (by decide) ?_
        refine lv_icmp_ne (tgt := 40) hx hb dL_isEnd_33 (by decide) (fun u16 => ?_) (fun u16 => ?_)
        · have h := ite_f u16 h
          refine lv_iconst (v := 0) hx hb dL_isEnd_40 (by decide) ?_
          obtain ⟨z17, h⟩ := okB_el h
          cases h
          exact c_zret hC hP hS z17 rfl dL_isEnd_41
        · have h := ite_t u16 h
          refine lv_iconst (v := 1) hx hb dL_isEnd_36 (by decide) ?_
          refine lv_goto (tgt := 41) hx hb dL_isEnd_37 (by decide) ?_
          obtain ⟨z18, h⟩ := okB_el h
          cases h
          exact c_zret hC hP hS z18 rfl dL_isEnd_41
