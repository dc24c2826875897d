theorem dX7_thrown_0 : decode cX7_thrown 0 = .ok (.aload_n 0, 1) := by decide +kernel
theorem dX7_thrown_1 : decode cX7_thrown 1 = .ok (.getfield 67, 3) := by decide +kernel
theorem dX7_thrown_4 : decode cX7_thrown 4 = .ok (.ireturn, 1) := by decide +kernel
def f_thrown (F : Nat) (M : MS) : Option Int32 := some (M.1 23)
set_option maxRecDepth 100000 in
set_option maxHeartbeats 4000000 in
theorem c_thrown (l : Launch) (G : mG) (F : Nat) (M : MS) (r : Int32) (h : f_thrown F M = some r) : mMI l yX7_thrown vX7_thrown ({ frames := 0, cells := 0, slots := 0, locals := 0 }) G [.ref (mO G)] M M r := by
  refine mBodyI (cc := cX7_thrown) (maxL := 1) (ret := (some .int)) (by decide) rfl rfl ?_
  intro sz p e s m below meth c hC hP
  have hC0 := hC
  obtain ⟨hx, hb, -, hts, -, -, -, -, -, -⟩ := hC0
  have hS : va_S (mA G sz) s.heap s.heap [] := va_S.rf
  have hin : ∀ w ∈ wsX70, w ∈ vX7_thrown := fun w h => List.mem_cons_of_mem _ (List.mem_append_right _ h)
  have fl_thrown := hts _ (List.mem_cons_of_mem _ wm_1)
  refine m_entry (Nat.le_of_ble_eq_true rfl) (fun ls hl => ?_)
  have hl : lv_has ls 1 [(0, .ref (mO G))] := hl
  unfold f_thrown at h
  refine lv_aload_n hx hb dX7_thrown_0 rfl (lv_at hl 0 rfl) ?_
  refine m_get hC hin hP 23 (by decide) fl_thrown rfl (v := .int (M.1 23)) rfl dX7_thrown_1 ?_
  cases h
  exact m_iret hC hP hS rfl dX7_thrown_4

theorem dX7_goes_0 : decode cX7_goes 0 = .ok (.aload_n 0, 1) := by decide +kernel
theorem dX7_goes_1 : decode cX7_goes 1 = .ok (.iload_n 1, 1) := by decide +kernel
theorem dX7_goes_2 : decode cX7_goes 2 = .ok (.putfield 67, 3) := by decide +kernel
theorem dX7_goes_5 : decode cX7_goes 5 = .ok (.iload_n 1, 1) := by decide +kernel
theorem dX7_goes_6 : decode cX7_goes 6 = .ok (.ifCond .ne 7, 3) := by decide +kernel
theorem dX7_goes_9 : decode cX7_goes 9 = .ok (.iconst 1, 1) := by decide +kernel
theorem dX7_goes_10 : decode cX7_goes 10 = .ok (.goto 4, 3) := by decide +kernel
theorem dX7_goes_13 : decode cX7_goes 13 = .ok (.iconst 0, 1) := by decide +kernel
theorem dX7_goes_14 : decode cX7_goes 14 = .ok (.ireturn, 1) := by decide +kernel
def f_goes (F : Nat) (M : MS) (a1 : Int32) : Option (MS × Int32) := wrF M 23 a1 fun M1 => (if a1 = 0 then okB 1 (some (M1, 1)) else okB 0 (some (M1, 0)))
set_option maxRecDepth 100000 in
set_option maxHeartbeats 4000000 in
theorem c_goes (l : Launch) (G : mG) (F : Nat) (M M2 : MS) (a1 : Int32) (r : Int32) (h : f_goes F M a1 = some (M2, r)) : mMI l yX7_goes vX7_goes ({ frames := 0, cells := 0, slots := 0, locals := 0 }) G [.ref (mO G), .int a1] M M2 r := by
  refine mBodyI (cc := cX7_goes) (maxL := 2) (ret := (some .boolean)) (by decide) rfl rfl ?_
  intro sz p e s m below meth c hC hP
  have hC0 := hC
  obtain ⟨hx, hb, -, hts, -, -, -, -, -, -⟩ := hC0
  have hS : va_S (mA G sz) s.heap s.heap [] := va_S.rf
  have hin : ∀ w ∈ wsX70, w ∈ vX7_goes := fun w h => List.mem_cons_of_mem _ (List.mem_append_right _ h)
  have fl_thrown := hts _ (List.mem_cons_of_mem _ wm_1)
  refine m_entry (Nat.le_of_ble_eq_true rfl) (fun ls hl => ?_)
  have hl : lv_has ls 2 [(0, .ref (mO G)), (1, .int a1)] := hl
  unfold f_goes at h
  refine lv_aload_n hx hb dX7_goes_0 rfl (lv_at hl 0 rfl) ?_
  refine lv_iload_n hx hb dX7_goes_1 rfl (lv_at hl 1 rfl) ?_
  obtain ⟨M1, e2, h⟩ := wrF_el h
  refine m_put hC hin hP hS 23 (by decide) fl_thrown rfl rfl (by decide +kernel) (mset_23 G _ _) e2 dX7_goes_2 (fun H locs hP hS => ?_)
  refine lv_iload_n hx hb dX7_goes_5 rfl (lv_at hl 1 rfl) ?_
  refine lv_if_ne (tgt := 13) hx hb dX7_goes_6 (by decide) (fun u3 => ?_) (fun u3 => ?_)
  · have h := ite_f u3 h
    refine lv_iconst (v := 0) hx hb dX7_goes_13 (by decide) ?_
    obtain ⟨z4, h⟩ := okB_el h
    cases h
    exact m_zret hC hP hS z4 rfl dX7_goes_14
  · have h := ite_t u3 h
    refine lv_iconst (v := 1) hx hb dX7_goes_9 (by decide) ?_
    refine lv_goto (tgt := 14) hx hb dX7_goes_10 (by decide) ?_
    obtain ⟨z5, h⟩ := okB_el h
    cases h
    exact m_zret hC hP hS z5 rfl dX7_goes_14

theorem dX7_isIn_0 : decode cX7_isIn 0 = .ok (.iload_n 0, 1) := by decide +kernel
theorem dX7_isIn_1 : decode cX7_isIn 1 = .ok (.iload_n 1, 1) := by decide +kernel
theorem dX7_isIn_2 : decode cX7_isIn 2 = .ok (.if_icmp .lt 12, 3) := by decide +kernel
theorem dX7_isIn_5 : decode cX7_isIn 5 = .ok (.iload_n 0, 1) := by decide +kernel
theorem dX7_isIn_6 : decode cX7_isIn 6 = .ok (.iload_n 2, 1) := by decide +kernel
theorem dX7_isIn_7 : decode cX7_isIn 7 = .ok (.if_icmp .gt 7, 3) := by decide +kernel
theorem dX7_isIn_10 : decode cX7_isIn 10 = .ok (.iconst 1, 1) := by decide +kernel
theorem dX7_isIn_11 : decode cX7_isIn 11 = .ok (.goto 4, 3) := by decide +kernel
theorem dX7_isIn_14 : decode cX7_isIn 14 = .ok (.iconst 0, 1) := by decide +kernel
theorem dX7_isIn_15 : decode cX7_isIn 15 = .ok (.ireturn, 1) := by decide +kernel
def f_isIn (F : Nat) (M : MS) (a1 : Int32) (a2 : Int32) (a3 : Int32) : Option Int32 := (if a1 < a2 then okB 0 (some 0) else (if a3 < a1 then okB 0 (some 0) else okB 1 (some 1)))
set_option maxRecDepth 100000 in
set_option maxHeartbeats 4000000 in
theorem c_isIn (l : Launch) (G : mG) (F : Nat) (M : MS) (a1 : Int32) (a2 : Int32) (a3 : Int32) (r : Int32) (h : f_isIn F M a1 a2 a3 = some r) : mMI l yX7_isIn vX7_isIn ({ frames := 0, cells := 0, slots := 0, locals := 0 }) G [.int a1, .int a2, .int a3] M M r := by
  refine mBodyI (cc := cX7_isIn) (maxL := 3) (ret := (some .boolean)) (by decide) rfl rfl ?_
  intro sz p e s m below meth c hC hP
  have hC0 := hC
  obtain ⟨hx, hb, -, hts, -, -, -, -, -, -⟩ := hC0
  have hS : va_S (mA G sz) s.heap s.heap [] := va_S.rf
  refine m_entry (Nat.le_of_ble_eq_true rfl) (fun ls hl => ?_)
  have hl : lv_has ls 3 [(0, .int a1), (1, .int a2), (2, .int a3)] := hl
  unfold f_isIn at h
  refine lv_iload_n hx hb dX7_isIn_0 rfl (lv_at hl 0 rfl) ?_
  refine lv_iload_n hx hb dX7_isIn_1 rfl (lv_at hl 1 rfl) ?_
  refine lv_icmp_lt (tgt := 14) hx hb dX7_isIn_2 (by decide) (fun u1 => ?_) (fun u1 => ?_)
  · have h := ite_t u1 h
    refine lv_iconst (v := 0) hx hb dX7_isIn_14 (by decide) ?_
    obtain ⟨z2, h⟩ := okB_el h
    cases h
    exact m_zret hC hP hS z2 rfl dX7_isIn_15
  · have h := ite_f u1 h
    refine lv_iload_n hx hb dX7_isIn_5 rfl (lv_at hl 0 rfl) ?_
    refine lv_iload_n hx hb dX7_isIn_6 rfl (lv_at hl 2 rfl) ?_
    refine lv_icmp_gt (tgt := 14) hx hb dX7_isIn_7 (by decide) (fun u3 => ?_) (fun u3 => ?_)
    · have h := ite_t u3 h
      refine lv_iconst (v := 0) hx hb dX7_isIn_14 (by decide) ?_
      obtain ⟨z4, h⟩ := okB_el h
      cases h
      exact m_zret hC hP hS z4 rfl dX7_isIn_15
    · have h := ite_f u3 h
      refine lv_iconst (v := 1) hx hb dX7_isIn_10 (by decide) ?_
      refine lv_goto (tgt := 15) hx hb dX7_isIn_11 (by decide) ?_
      obtain ⟨z5, h⟩ := okB_el h
      cases h
      exact m_zret hC hP hS z5 rfl dX7_isIn_15

theorem dX7_isPlace_0 : decode cX7_isPlace 0 = .ok (.iload_n 0, 1) := by decide +kernel
theorem dX7_isPlace_1 : decode cX7_isPlace 1 = .ok (.iconst 0, 1) := by decide +kernel
theorem dX7_isPlace_2 : decode cX7_isPlace 2 = .ok (.bipush 100, 2) := by decide +kernel
theorem dX7_isPlace_4 : decode cX7_isPlace 4 = .ok (.invokestatic 70, 3) := by decide +kernel
theorem dX7_isPlace_7 : decode cX7_isPlace 7 = .ok (.ireturn, 1) := by decide +kernel
def f_isPlace (F : Nat) (M : MS) (a1 : Int32) : Option Int32 := cal (f_isIn F M a1 0 100) fun t2 => okB t2 (some t2)
set_option maxRecDepth 100000 in
set_option maxHeartbeats 4000000 in
theorem c_isPlace (l : Launch) (G : mG) (F : Nat) (M : MS) (a1 : Int32) (r : Int32) (h : f_isPlace F M a1 = some r) : mMI l yX7_isPlace vX7_isPlace ({ frames := 1, cells := 0, slots := 0, locals := 22 }) G [.int a1] M M r := by
  refine mBodyI (cc := cX7_isPlace) (maxL := 1) (ret := (some .boolean)) (by decide) rfl rfl ?_
  intro sz p e s m below meth c hC hP
  have hC0 := hC
  obtain ⟨hx, hb, -, hts, -, -, -, -, -, -⟩ := hC0
  have hS : va_S (mA G sz) s.heap s.heap [] := va_S.rf
  refine m_entry (Nat.le_of_ble_eq_true rfl) (fun ls hl => ?_)
  have hl : lv_has ls 1 [(0, .int a1)] := hl
  unfold f_isPlace at h
  refine lv_iload_n hx hb dX7_isPlace_0 rfl (lv_at hl 0 rfl) ?_
  refine lv_iconst (v := 0) hx hb dX7_isPlace_1 (by decide) ?_
  refine lv_bipush (v := 100) hx hb dX7_isPlace_2 (by decide) ?_
  obtain ⟨t2, e1, h⟩ := cal_el h
  refine m_SI (As := [.int a1, .int 0, .int 100]) (rest := []) hC hP hS (c_isIn l G F M a1 0 100 t2 e1) (va_cwS 3 hts (gWMS wm_5 wm_6 wm_7 wm_3) rfl rfl rfl (by decide +kernel) ⟨Nat.le_of_ble_eq_true rfl, Nat.le_of_ble_eq_true rfl⟩) rfl hl.1 rfl (Nat.le_of_ble_eq_true rfl) dX7_isPlace_4 (fun H locs hP hS => ?_)
  obtain ⟨z3, h⟩ := okB_el h
  cases h
  exact m_zret hC hP hS z3 rfl dX7_isPlace_7

theorem dX7_dx_0 : decode cX7_dx 0 = .ok (.aload_n 0, 1) := by decide +kernel
theorem dX7_dx_1 : decode cX7_dx 1 = .ok (.getfield 16, 3) := by decide +kernel
theorem dX7_dx_4 : decode cX7_dx 4 = .ok (.iload_n 1, 1) := by decide +kernel
theorem dX7_dx_5 : decode cX7_dx 5 = .ok (.iaload, 1) := by decide +kernel
theorem dX7_dx_6 : decode cX7_dx 6 = .ok (.aload_n 0, 1) := by decide +kernel
theorem dX7_dx_7 : decode cX7_dx 7 = .ok (.getfield 7, 3) := by decide +kernel
theorem dX7_dx_10 : decode cX7_dx 10 = .ok (.iload_n 1, 1) := by decide +kernel
theorem dX7_dx_11 : decode cX7_dx 11 = .ok (.iaload, 1) := by decide +kernel
theorem dX7_dx_12 : decode cX7_dx 12 = .ok (.isub, 1) := by decide +kernel
theorem dX7_dx_13 : decode cX7_dx 13 = .ok (.ireturn, 1) := by decide +kernel
def f_dx (F : Nat) (M : MS) (a1 : Int32) : Option Int32 := rdI 13 (M.2.1 3) a1 fun t1 => rdI 13 (M.2.1 1) a1 fun t4 => some (t1 - t4)
set_option maxRecDepth 100000 in
set_option maxHeartbeats 4000000 in
theorem c_dx (l : Launch) (G : mG) (F : Nat) (M : MS) (a1 : Int32) (r : Int32) (h : f_dx F M a1 = some r) : mMI l yX7_dx vX7_dx ({ frames := 0, cells := 0, slots := 0, locals := 0 }) G [.ref (mO G), .int a1] M M r := by
  refine mBodyI (cc := cX7_dx) (maxL := 2) (ret := (some .int)) (by decide) rfl rfl ?_
  intro sz p e s m below meth c hC hP
  have hC0 := hC
  obtain ⟨hx, hb, -, hts, -, -, -, -, -, -⟩ := hC0
  have hS : va_S (mA G sz) s.heap s.heap [] := va_S.rf
  have hin : ∀ w ∈ wsX70, w ∈ vX7_dx := fun w h => List.mem_cons_of_mem _ (List.mem_append_right _ h)
  have fl_x2 := hts _ (List.mem_cons_of_mem _ wm_9)
  have fl_x1 := hts _ (List.mem_cons_of_mem _ wm_10)
  refine m_entry (Nat.le_of_ble_eq_true rfl) (fun ls hl => ?_)
  have hl : lv_has ls 2 [(0, .ref (mO G)), (1, .int a1)] := hl
  unfold f_dx at h
  refine lv_aload_n hx hb dX7_dx_0 rfl (lv_at hl 0 rfl) ?_
  refine m_get hC hin hP 3 (by decide) fl_x2 rfl (v := .ref (mAd G 3)) rfl dX7_dx_1 ?_
  refine lv_iload_n hx hb dX7_dx_4 rfl (lv_at hl 1 rfl) ?_
  obtain ⟨z2, t1, e3, h⟩ := rdI_el h
  refine m_ild hC hP 3 (N := 13) rfl z2 e3 dX7_dx_5 ?_
  refine lv_aload_n hx hb dX7_dx_6 rfl (lv_at hl 0 rfl) ?_
  refine m_get hC hin hP 1 (by decide) fl_x1 rfl (v := .ref (mAd G 1)) rfl dX7_dx_7 ?_
  refine lv_iload_n hx hb dX7_dx_10 rfl (lv_at hl 1 rfl) ?_
  obtain ⟨z5, t4, e6, h⟩ := rdI_el h
  refine m_ild hC hP 1 (N := 13) rfl z5 e6 dX7_dx_11 ?_
  refine lv_isub hx hb dX7_dx_12 ?_
  cases h
  exact m_iret hC hP hS rfl dX7_dx_13

theorem dX7_dy_0 : decode cX7_dy 0 = .ok (.aload_n 0, 1) := by decide +kernel
theorem dX7_dy_1 : decode cX7_dy 1 = .ok (.getfield 19, 3) := by decide +kernel
theorem dX7_dy_4 : decode cX7_dy 4 = .ok (.iload_n 1, 1) := by decide +kernel
theorem dX7_dy_5 : decode cX7_dy 5 = .ok (.iaload, 1) := by decide +kernel
theorem dX7_dy_6 : decode cX7_dy 6 = .ok (.aload_n 0, 1) := by decide +kernel
theorem dX7_dy_7 : decode cX7_dy 7 = .ok (.getfield 13, 3) := by decide +kernel
theorem dX7_dy_10 : decode cX7_dy 10 = .ok (.iload_n 1, 1) := by decide +kernel
theorem dX7_dy_11 : decode cX7_dy 11 = .ok (.iaload, 1) := by decide +kernel
theorem dX7_dy_12 : decode cX7_dy 12 = .ok (.isub, 1) := by decide +kernel
theorem dX7_dy_13 : decode cX7_dy 13 = .ok (.ireturn, 1) := by decide +kernel
def f_dy (F : Nat) (M : MS) (a1 : Int32) : Option Int32 := rdI 13 (M.2.1 4) a1 fun t1 => rdI 13 (M.2.1 2) a1 fun t4 => some (t1 - t4)
set_option maxRecDepth 100000 in
set_option maxHeartbeats 4000000 in
theorem c_dy (l : Launch) (G : mG) (F : Nat) (M : MS) (a1 : Int32) (r : Int32) (h : f_dy F M a1 = some r) : mMI l yX7_dy vX7_dy ({ frames := 0, cells := 0, slots := 0, locals := 0 }) G [.ref (mO G), .int a1] M M r := by
  refine mBodyI (cc := cX7_dy) (maxL := 2) (ret := (some .int)) (by decide) rfl rfl ?_
  intro sz p e s m below meth c hC hP
  have hC0 := hC
  obtain ⟨hx, hb, -, hts, -, -, -, -, -, -⟩ := hC0
  have hS : va_S (mA G sz) s.heap s.heap [] := va_S.rf
  have hin : ∀ w ∈ wsX70, w ∈ vX7_dy := fun w h => List.mem_cons_of_mem _ (List.mem_append_right _ h)
  have fl_y2 := hts _ (List.mem_cons_of_mem _ wm_12)
  have fl_y1 := hts _ (List.mem_cons_of_mem _ wm_13)
  refine m_entry (Nat.le_of_ble_eq_true rfl) (fun ls hl => ?_)
  have hl : lv_has ls 2 [(0, .ref (mO G)), (1, .int a1)] := hl
  unfold f_dy at h
  refine lv_aload_n hx hb dX7_dy_0 rfl (lv_at hl 0 rfl) ?_
  refine m_get hC hin hP 4 (by decide) fl_y2 rfl (v := .ref (mAd G 4)) rfl dX7_dy_1 ?_
  refine lv_iload_n hx hb dX7_dy_4 rfl (lv_at hl 1 rfl) ?_
  obtain ⟨z2, t1, e3, h⟩ := rdI_el h
  refine m_ild hC hP 4 (N := 13) rfl z2 e3 dX7_dy_5 ?_
  refine lv_aload_n hx hb dX7_dy_6 rfl (lv_at hl 0 rfl) ?_
  refine m_get hC hin hP 2 (by decide) fl_y1 rfl (v := .ref (mAd G 2)) rfl dX7_dy_7 ?_
  refine lv_iload_n hx hb dX7_dy_10 rfl (lv_at hl 1 rfl) ?_
  obtain ⟨z5, t4, e6, h⟩ := rdI_el h
  refine m_ild hC hP 2 (N := 13) rfl z5 e6 dX7_dy_11 ?_
  refine lv_isub hx hb dX7_dy_12 ?_
  cases h
  exact m_iret hC hP hS rfl dX7_dy_13

theorem dX7_cross_0 : decode cX7_cross 0 = .ok (.aload_n 0, 1) := by decide +kernel
theorem dX7_cross_1 : decode cX7_cross 1 = .ok (.iload_n 1, 1) := by decide +kernel
theorem dX7_cross_2 : decode cX7_cross 2 = .ok (.invokevirtual 74, 3) := by decide +kernel
theorem dX7_cross_5 : decode cX7_cross 5 = .ok (.aload_n 0, 1) := by decide +kernel
theorem dX7_cross_6 : decode cX7_cross 6 = .ok (.iload_n 2, 1) := by decide +kernel
theorem dX7_cross_7 : decode cX7_cross 7 = .ok (.invokevirtual 78, 3) := by decide +kernel
theorem dX7_cross_10 : decode cX7_cross 10 = .ok (.imul, 1) := by decide +kernel
theorem dX7_cross_11 : decode cX7_cross 11 = .ok (.aload_n 0, 1) := by decide +kernel
theorem dX7_cross_12 : decode cX7_cross 12 = .ok (.iload_n 1, 1) := by decide +kernel
theorem dX7_cross_13 : decode cX7_cross 13 = .ok (.invokevirtual 78, 3) := by decide +kernel
theorem dX7_cross_16 : decode cX7_cross 16 = .ok (.aload_n 0, 1) := by decide +kernel
theorem dX7_cross_17 : decode cX7_cross 17 = .ok (.iload_n 2, 1) := by decide +kernel
theorem dX7_cross_18 : decode cX7_cross 18 = .ok (.invokevirtual 74, 3) := by decide +kernel
theorem dX7_cross_21 : decode cX7_cross 21 = .ok (.imul, 1) := by decide +kernel
theorem dX7_cross_22 : decode cX7_cross 22 = .ok (.isub, 1) := by decide +kernel
theorem dX7_cross_23 : decode cX7_cross 23 = .ok (.ireturn, 1) := by decide +kernel
def f_cross (F : Nat) (M : MS) (a1 : Int32) (a2 : Int32) : Option Int32 := cal (f_dx F M a1) fun t2 => cal (f_dy F M a2) fun t4 => cal (f_dy F M a1) fun t6 => cal (f_dx F M a2) fun t8 => some ((t2 * t4) - (t6 * t8))
set_option maxRecDepth 100000 in
set_option maxHeartbeats 4000000 in
theorem c_cross (l : Launch) (G : mG) (F : Nat) (M : MS) (a1 : Int32) (a2 : Int32) (r : Int32) (h : f_cross F M a1 a2 = some r) : mMI l yX7_cross vX7_cross ({ frames := 1, cells := 0, slots := 0, locals := 21 }) G [.ref (mO G), .int a1, .int a2] M M r := by
  refine mBodyI (cc := cX7_cross) (maxL := 3) (ret := (some .int)) (by decide) rfl rfl ?_
  intro sz p e s m below meth c hC hP
  have hC0 := hC
  obtain ⟨hx, hb, -, hts, -, -, -, -, -, -⟩ := hC0
  have hS : va_S (mA G sz) s.heap s.heap [] := va_S.rf
  refine m_entry (Nat.le_of_ble_eq_true rfl) (fun ls hl => ?_)
  have hl : lv_has ls 3 [(0, .ref (mO G)), (1, .int a1), (2, .int a2)] := hl
  unfold f_cross at h
  refine lv_aload_n hx hb dX7_cross_0 rfl (lv_at hl 0 rfl) ?_
  refine lv_iload_n hx hb dX7_cross_1 rfl (lv_at hl 1 rfl) ?_
  obtain ⟨t2, e1, h⟩ := cal_el h
  refine m_VI (As := [.int a1]) (rest := []) hC hP hS (c_dx l G F M a1 t2 e1) (cwV 1 hts (gWM wm_15 wm_16 wm_17 wm_7 wm_8) rfl rfl rfl (by decide +kernel) ⟨Nat.le_of_ble_eq_true rfl, Nat.le_of_ble_eq_true rfl⟩) rfl hl.1 rfl (Nat.le_of_ble_eq_true rfl) dX7_cross_2 (fun H locs hP hS => ?_)
  refine lv_aload_n hx hb dX7_cross_5 rfl (lv_at hl 0 rfl) ?_
  refine lv_iload_n hx hb dX7_cross_6 rfl (lv_at hl 2 rfl) ?_
  obtain ⟨t4, e3, h⟩ := cal_el h
  refine m_VI (As := [.int a2]) (rest := [.int t2]) hC hP hS (c_dy l G F M a2 t4 e3) (cwV 1 hts (gWM wm_18 wm_19 wm_20 wm_7 wm_11) rfl rfl rfl (by decide +kernel) ⟨Nat.le_of_ble_eq_true rfl, Nat.le_of_ble_eq_true rfl⟩) rfl hl.1 rfl (Nat.le_of_ble_eq_true rfl) dX7_cross_7 (fun H locs hP hS => ?_)
  refine lv_imul hx hb dX7_cross_10 ?_
  refine lv_aload_n hx hb dX7_cross_11 rfl (lv_at hl 0 rfl) ?_
  refine lv_iload_n hx hb dX7_cross_12 rfl (lv_at hl 1 rfl) ?_
  obtain ⟨t6, e5, h⟩ := cal_el h
  refine m_VI (As := [.int a1]) (rest := [.int (t2 * t4)]) hC hP hS (c_dy l G F M a1 t6 e5) (cwV 1 hts (gWM wm_18 wm_19 wm_20 wm_7 wm_11) rfl rfl rfl (by decide +kernel) ⟨Nat.le_of_ble_eq_true rfl, Nat.le_of_ble_eq_true rfl⟩) rfl hl.1 rfl (Nat.le_of_ble_eq_true rfl) dX7_cross_13 (fun H locs hP hS => ?_)
  refine lv_aload_n hx hb dX7_cross_16 rfl (lv_at hl 0 rfl) ?_
  refine lv_iload_n hx hb dX7_cross_17 rfl (lv_at hl 2 rfl) ?_
  obtain ⟨t8, e7, h⟩ := cal_el h
  refine m_VI (As := [.int a2]) (rest := [.int t6, .int (t2 * t4)]) hC hP hS (c_dx l G F M a2 t8 e7) (cwV 1 hts (gWM wm_15 wm_16 wm_17 wm_7 wm_8) rfl rfl rfl (by decide +kernel) ⟨Nat.le_of_ble_eq_true rfl, Nat.le_of_ble_eq_true rfl⟩) rfl hl.1 rfl (Nat.le_of_ble_eq_true rfl) dX7_cross_18 (fun H locs hP hS => ?_)
  refine lv_imul hx hb dX7_cross_21 ?_
  refine lv_isub hx hb dX7_cross_22 ?_
  cases h
  exact m_iret hC hP hS rfl dX7_cross_23

theorem dX7_crossTo_0 : decode cX7_crossTo 0 = .ok (.aload_n 0, 1) := by decide +kernel
theorem dX7_crossTo_1 : decode cX7_crossTo 1 = .ok (.getfield 7, 3) := by decide +kernel
theorem dX7_crossTo_4 : decode cX7_crossTo 4 = .ok (.iload_n 2, 1) := by decide +kernel
theorem dX7_crossTo_5 : decode cX7_crossTo 5 = .ok (.iaload, 1) := by decide +kernel
theorem dX7_crossTo_6 : decode cX7_crossTo 6 = .ok (.aload_n 0, 1) := by decide +kernel
theorem dX7_crossTo_7 : decode cX7_crossTo 7 = .ok (.getfield 7, 3) := by decide +kernel
theorem dX7_crossTo_10 : decode cX7_crossTo 10 = .ok (.iload_n 1, 1) := by decide +kernel
theorem dX7_crossTo_11 : decode cX7_crossTo 11 = .ok (.iaload, 1) := by decide +kernel
theorem dX7_crossTo_12 : decode cX7_crossTo 12 = .ok (.isub, 1) := by decide +kernel
theorem dX7_crossTo_13 : decode cX7_crossTo 13 = .ok (.aload_n 0, 1) := by decide +kernel
theorem dX7_crossTo_14 : decode cX7_crossTo 14 = .ok (.iload_n 3, 1) := by decide +kernel
theorem dX7_crossTo_15 : decode cX7_crossTo 15 = .ok (.invokevirtual 78, 3) := by decide +kernel
theorem dX7_crossTo_18 : decode cX7_crossTo 18 = .ok (.imul, 1) := by decide +kernel
theorem dX7_crossTo_19 : decode cX7_crossTo 19 = .ok (.aload_n 0, 1) := by decide +kernel
theorem dX7_crossTo_20 : decode cX7_crossTo 20 = .ok (.getfield 13, 3) := by decide +kernel
theorem dX7_crossTo_23 : decode cX7_crossTo 23 = .ok (.iload_n 2, 1) := by decide +kernel
theorem dX7_crossTo_24 : decode cX7_crossTo 24 = .ok (.iaload, 1) := by decide +kernel
theorem dX7_crossTo_25 : decode cX7_crossTo 25 = .ok (.aload_n 0, 1) := by decide +kernel
theorem dX7_crossTo_26 : decode cX7_crossTo 26 = .ok (.getfield 13, 3) := by decide +kernel
theorem dX7_crossTo_29 : decode cX7_crossTo 29 = .ok (.iload_n 1, 1) := by decide +kernel
theorem dX7_crossTo_30 : decode cX7_crossTo 30 = .ok (.iaload, 1) := by decide +kernel
theorem dX7_crossTo_31 : decode cX7_crossTo 31 = .ok (.isub, 1) := by decide +kernel
theorem dX7_crossTo_32 : decode cX7_crossTo 32 = .ok (.aload_n 0, 1) := by decide +kernel
theorem dX7_crossTo_33 : decode cX7_crossTo 33 = .ok (.iload_n 3, 1) := by decide +kernel
theorem dX7_crossTo_34 : decode cX7_crossTo 34 = .ok (.invokevirtual 74, 3) := by decide +kernel
theorem dX7_crossTo_37 : decode cX7_crossTo 37 = .ok (.imul, 1) := by decide +kernel
theorem dX7_crossTo_38 : decode cX7_crossTo 38 = .ok (.isub, 1) := by decide +kernel
theorem dX7_crossTo_39 : decode cX7_crossTo 39 = .ok (.ireturn, 1) := by decide +kernel
def f_crossTo (F : Nat) (M : MS) (a1 : Int32) (a2 : Int32) (a3 : Int32) : Option Int32 := rdI 13 (M.2.1 1) a2 fun t1 => rdI 13 (M.2.1 1) a1 fun t4 => cal (f_dy F M a3) fun t8 => rdI 13 (M.2.1 2) a2 fun t9 => rdI 13 (M.2.1 2) a1 fun t12 => cal (f_dx F M a3) fun t16 => some (((t1 - t4) * t8) - ((t9 - t12) * t16))
set_option maxRecDepth 100000 in
set_option maxHeartbeats 4000000 in
theorem c_crossTo (l : Launch) (G : mG) (F : Nat) (M : MS) (a1 : Int32) (a2 : Int32) (a3 : Int32) (r : Int32) (h : f_crossTo F M a1 a2 a3 = some r) : mMI l yX7_crossTo vX7_crossTo ({ frames := 1, cells := 0, slots := 0, locals := 21 }) G [.ref (mO G), .int a1, .int a2, .int a3] M M r := by
  refine mBodyI (cc := cX7_crossTo) (maxL := 4) (ret := (some .int)) (by decide) rfl rfl ?_
  intro sz p e s m below meth c hC hP
  have hC0 := hC
  obtain ⟨hx, hb, -, hts, -, -, -, -, -, -⟩ := hC0
  have hS : va_S (mA G sz) s.heap s.heap [] := va_S.rf
  have hin : ∀ w ∈ wsX70, w ∈ vX7_crossTo := fun w h => List.mem_cons_of_mem _ (List.mem_append_right _ h)
  have fl_x1 := hts _ (List.mem_cons_of_mem _ wm_10)
  have fl_y1 := hts _ (List.mem_cons_of_mem _ wm_13)
  refine m_entry (Nat.le_of_ble_eq_true rfl) (fun ls hl => ?_)
  have hl : lv_has ls 4 [(0, .ref (mO G)), (1, .int a1), (2, .int a2), (3, .int a3)] := hl
  unfold f_crossTo at h
  refine lv_aload_n hx hb dX7_crossTo_0 rfl (lv_at hl 0 rfl) ?_
  refine m_get hC hin hP 1 (by decide) fl_x1 rfl (v := .ref (mAd G 1)) rfl dX7_crossTo_1 ?_
  refine lv_iload_n hx hb dX7_crossTo_4 rfl (lv_at hl 2 rfl) ?_
  obtain ⟨z2, t1, e3, h⟩ := rdI_el h
  refine m_ild hC hP 1 (N := 13) rfl z2 e3 dX7_crossTo_5 ?_
  refine lv_aload_n hx hb dX7_crossTo_6 rfl (lv_at hl 0 rfl) ?_
  refine m_get hC hin hP 1 (by decide) fl_x1 rfl (v := .ref (mAd G 1)) rfl dX7_crossTo_7 ?_
  refine lv_iload_n hx hb dX7_crossTo_10 rfl (lv_at hl 1 rfl) ?_
  obtain ⟨z5, t4, e6, h⟩ := rdI_el h
  refine m_ild hC hP 1 (N := 13) rfl z5 e6 dX7_crossTo_11 ?_
  refine lv_isub hx hb dX7_crossTo_12 ?_
  refine lv_aload_n hx hb dX7_crossTo_13 rfl (lv_at hl 0 rfl) ?_
  refine lv_iload_n hx hb dX7_crossTo_14 rfl (lv_at hl 3 rfl) ?_
  obtain ⟨t8, e7, h⟩ := cal_el h
  refine m_VI (As := [.int a3]) (rest := [.int (t1 - t4)]) hC hP hS (c_dy l G F M a3 t8 e7) (cwV 1 hts (gWM wm_18 wm_19 wm_20 wm_7 wm_11) rfl rfl rfl (by decide +kernel) ⟨Nat.le_of_ble_eq_true rfl, Nat.le_of_ble_eq_true rfl⟩) rfl hl.1 rfl (Nat.le_of_ble_eq_true rfl) dX7_crossTo_15 (fun H locs hP hS => ?_)
  refine lv_imul hx hb dX7_crossTo_18 ?_
  refine lv_aload_n hx hb dX7_crossTo_19 rfl (lv_at hl 0 rfl) ?_
  refine m_get hC hin hP 2 (by decide) fl_y1 rfl (v := .ref (mAd G 2)) rfl dX7_crossTo_20 ?_
  refine lv_iload_n hx hb dX7_crossTo_23 rfl (lv_at hl 2 rfl) ?_
  obtain ⟨z10, t9, e11, h⟩ := rdI_el h
  refine m_ild hC hP 2 (N := 13) rfl z10 e11 dX7_crossTo_24 ?_
  refine lv_aload_n hx hb dX7_crossTo_25 rfl (lv_at hl 0 rfl) ?_
  refine m_get hC hin hP 2 (by decide) fl_y1 rfl (v := .ref (mAd G 2)) rfl dX7_crossTo_26 ?_
  refine lv_iload_n hx hb dX7_crossTo_29 rfl (lv_at hl 1 rfl) ?_
  obtain ⟨z13, t12, e14, h⟩ := rdI_el h
  refine m_ild hC hP 2 (N := 13) rfl z13 e14 dX7_crossTo_30 ?_
  refine lv_isub hx hb dX7_crossTo_31 ?_
  refine lv_aload_n hx hb dX7_crossTo_32 rfl (lv_at hl 0 rfl) ?_
  refine lv_iload_n hx hb dX7_crossTo_33 rfl (lv_at hl 3 rfl) ?_
  obtain ⟨t16, e15, h⟩ := cal_el h
  refine m_VI (As := [.int a3]) (rest := [.int (t9 - t12), .int ((t1 - t4) * t8)]) hC hP hS (c_dx l G F M a3 t16 e15) (cwV 1 hts (gWM wm_15 wm_16 wm_17 wm_7 wm_8) rfl rfl rfl (by decide +kernel) ⟨Nat.le_of_ble_eq_true rfl, Nat.le_of_ble_eq_true rfl⟩) rfl hl.1 rfl (Nat.le_of_ble_eq_true rfl) dX7_crossTo_34 (fun H locs hP hS => ?_)
  refine lv_imul hx hb dX7_crossTo_37 ?_
  refine lv_isub hx hb dX7_crossTo_38 ?_
  cases h
  exact m_iret hC hP hS rfl dX7_crossTo_39

theorem dX7_isBefore_0 : decode cX7_isBefore 0 = .ok (.iload_n 0, 1) := by decide +kernel
theorem dX7_isBefore_1 : decode cX7_isBefore 1 = .ok (.iload_n 2, 1) := by decide +kernel
theorem dX7_isBefore_2 : decode cX7_isBefore 2 = .ok (.if_icmp .lt 13, 3) := by decide +kernel
theorem dX7_isBefore_5 : decode cX7_isBefore 5 = .ok (.iload_n 0, 1) := by decide +kernel
theorem dX7_isBefore_6 : decode cX7_isBefore 6 = .ok (.iload_n 2, 1) := by decide +kernel
theorem dX7_isBefore_7 : decode cX7_isBefore 7 = .ok (.if_icmp .ne 12, 3) := by decide +kernel
theorem dX7_isBefore_10 : decode cX7_isBefore 10 = .ok (.iload_n 1, 1) := by decide +kernel
theorem dX7_isBefore_11 : decode cX7_isBefore 11 = .ok (.iload_n 3, 1) := by decide +kernel
theorem dX7_isBefore_12 : decode cX7_isBefore 12 = .ok (.if_icmp .ge 7, 3) := by decide +kernel
theorem dX7_isBefore_15 : decode cX7_isBefore 15 = .ok (.iconst 1, 1) := by decide +kernel
theorem dX7_isBefore_16 : decode cX7_isBefore 16 = .ok (.goto 4, 3) := by decide +kernel
theorem dX7_isBefore_19 : decode cX7_isBefore 19 = .ok (.iconst 0, 1) := by decide +kernel
theorem dX7_isBefore_20 : decode cX7_isBefore 20 = .ok (.ireturn, 1) := by decide +kernel
def f_isBefore (F : Nat) (M : MS) (a1 : Int32) (a2 : Int32) (a3 : Int32) (a4 : Int32) : Option Int32 := (if a1 < a3 then okB 1 (some 1) else (if a1 = a3 then (if a4 ≤ a2 then okB 0 (some 0) else okB 1 (some 1)) else okB 0 (some 0)))
set_option maxRecDepth 100000 in
set_option maxHeartbeats 4000000 in
theorem c_isBefore (l : Launch) (G : mG) (F : Nat) (M : MS) (a1 : Int32) (a2 : Int32) (a3 : Int32) (a4 : Int32) (r : Int32) (h : f_isBefore F M a1 a2 a3 a4 = some r) : mMI l yX7_isBefore vX7_isBefore ({ frames := 0, cells := 0, slots := 0, locals := 0 }) G [.int a1, .int a2, .int a3, .int a4] M M r := by
  refine mBodyI (cc := cX7_isBefore) (maxL := 4) (ret := (some .boolean)) (by decide) rfl rfl ?_
  intro sz p e s m below meth c hC hP
  have hC0 := hC
  obtain ⟨hx, hb, -, hts, -, -, -, -, -, -⟩ := hC0
  have hS : va_S (mA G sz) s.heap s.heap [] := va_S.rf
  refine m_entry (Nat.le_of_ble_eq_true rfl) (fun ls hl => ?_)
  have hl : lv_has ls 4 [(0, .int a1), (1, .int a2), (2, .int a3), (3, .int a4)] := hl
  unfold f_isBefore at h
  refine lv_iload_n hx hb dX7_isBefore_0 rfl (lv_at hl 0 rfl) ?_
  refine lv_iload_n hx hb dX7_isBefore_1 rfl (lv_at hl 2 rfl) ?_
  refine lv_icmp_lt (tgt := 15) hx hb dX7_isBefore_2 (by decide) (fun u1 => ?_) (fun u1 => ?_)
  · have h := ite_t u1 h
    refine lv_iconst (v := 1) hx hb dX7_isBefore_15 (by decide) ?_
    refine lv_goto (tgt := 20) hx hb dX7_isBefore_16 (by decide) ?_
    obtain ⟨z2, h⟩ := okB_el h
    cases h
    exact m_zret hC hP hS z2 rfl dX7_isBefore_20
  · have h := ite_f u1 h
    refine lv_iload_n hx hb dX7_isBefore_5 rfl (lv_at hl 0 rfl) ?_
    refine lv_iload_n hx hb dX7_isBefore_6 rfl (lv_at hl 2 rfl) ?_
    refine lv_icmp_ne (tgt := 19) hx hb dX7_isBefore_7 (by decide) (fun u3 => ?_) (fun u3 => ?_)
    · have h := ite_f u3 h
      refine lv_iconst (v := 0) hx hb dX7_isBefore_19 (by decide) ?_
      obtain ⟨z4, h⟩ := okB_el h
      cases h
      exact m_zret hC hP hS z4 rfl dX7_isBefore_20
    · have h := ite_t u3 h
      refine lv_iload_n hx hb dX7_isBefore_10 rfl (lv_at hl 1 rfl) ?_
      refine lv_iload_n hx hb dX7_isBefore_11 rfl (lv_at hl 3 rfl) ?_
      refine lv_icmp_ge (tgt := 19) hx hb dX7_isBefore_12 (by decide) (fun u5 => ?_) (fun u5 => ?_)
      · have h := ite_t u5 h
        refine lv_iconst (v := 0) hx hb dX7_isBefore_19 (by decide) ?_
        obtain ⟨z6, h⟩ := okB_el h
        cases h
        exact m_zret hC hP hS z6 rfl dX7_isBefore_20
      · have h := ite_f u5 h
        refine lv_iconst (v := 1) hx hb dX7_isBefore_15 (by decide) ?_
        refine lv_goto (tgt := 20) hx hb dX7_isBefore_16 (by decide) ?_
        obtain ⟨z7, h⟩ := okB_el h
        cases h
        exact m_zret hC hP hS z7 rfl dX7_isBefore_20

theorem dX7_onLine_0 : decode cX7_onLine 0 = .ok (.aload_n 0, 1) := by decide +kernel
theorem dX7_onLine_1 : decode cX7_onLine 1 = .ok (.getfield 7, 3) := by decide +kernel
theorem dX7_onLine_4 : decode cX7_onLine 4 = .ok (.iload_n 1, 1) := by decide +kernel
theorem dX7_onLine_5 : decode cX7_onLine 5 = .ok (.iaload, 1) := by decide +kernel
theorem dX7_onLine_6 : decode cX7_onLine 6 = .ok (.aload_n 0, 1) := by decide +kernel
theorem dX7_onLine_7 : decode cX7_onLine 7 = .ok (.getfield 13, 3) := by decide +kernel
theorem dX7_onLine_10 : decode cX7_onLine 10 = .ok (.iload_n 1, 1) := by decide +kernel
theorem dX7_onLine_11 : decode cX7_onLine 11 = .ok (.iaload, 1) := by decide +kernel
theorem dX7_onLine_12 : decode cX7_onLine 12 = .ok (.aload_n 0, 1) := by decide +kernel
theorem dX7_onLine_13 : decode cX7_onLine 13 = .ok (.getfield 7, 3) := by decide +kernel
theorem dX7_onLine_16 : decode cX7_onLine 16 = .ok (.iload_n 2, 1) := by decide +kernel
theorem dX7_onLine_17 : decode cX7_onLine 17 = .ok (.iaload, 1) := by decide +kernel
theorem dX7_onLine_18 : decode cX7_onLine 18 = .ok (.aload_n 0, 1) := by decide +kernel
theorem dX7_onLine_19 : decode cX7_onLine 19 = .ok (.getfield 13, 3) := by decide +kernel
theorem dX7_onLine_22 : decode cX7_onLine 22 = .ok (.iload_n 2, 1) := by decide +kernel
theorem dX7_onLine_23 : decode cX7_onLine 23 = .ok (.iaload, 1) := by decide +kernel
theorem dX7_onLine_24 : decode cX7_onLine 24 = .ok (.invokestatic 81, 3) := by decide +kernel
theorem dX7_onLine_27 : decode cX7_onLine 27 = .ok (.istore_n 3, 1) := by decide +kernel
theorem dX7_onLine_28 : decode cX7_onLine 28 = .ok (.iload_n 3, 1) := by decide +kernel
theorem dX7_onLine_29 : decode cX7_onLine 29 = .ok (.ifCond .eq 12, 3) := by decide +kernel
theorem dX7_onLine_32 : decode cX7_onLine 32 = .ok (.aload_n 0, 1) := by decide +kernel
theorem dX7_onLine_33 : decode cX7_onLine 33 = .ok (.getfield 7, 3) := by decide +kernel
theorem dX7_onLine_36 : decode cX7_onLine 36 = .ok (.iload_n 2, 1) := by decide +kernel
theorem dX7_onLine_37 : decode cX7_onLine 37 = .ok (.iaload, 1) := by decide +kernel
theorem dX7_onLine_38 : decode cX7_onLine 38 = .ok (.goto 9, 3) := by decide +kernel
theorem dX7_onLine_41 : decode cX7_onLine 41 = .ok (.aload_n 0, 1) := by decide +kernel
theorem dX7_onLine_42 : decode cX7_onLine 42 = .ok (.getfield 7, 3) := by decide +kernel
theorem dX7_onLine_45 : decode cX7_onLine 45 = .ok (.iload_n 1, 1) := by decide +kernel
theorem dX7_onLine_46 : decode cX7_onLine 46 = .ok (.iaload, 1) := by decide +kernel
theorem dX7_onLine_47 : decode cX7_onLine 47 = .ok (.istore 4, 2) := by decide +kernel
theorem dX7_onLine_49 : decode cX7_onLine 49 = .ok (.iload_n 3, 1) := by decide +kernel
theorem dX7_onLine_50 : decode cX7_onLine 50 = .ok (.ifCond .eq 12, 3) := by decide +kernel
theorem dX7_onLine_53 : decode cX7_onLine 53 = .ok (.aload_n 0, 1) := by decide +kernel
theorem dX7_onLine_54 : decode cX7_onLine 54 = .ok (.getfield 13, 3) := by decide +kernel
theorem dX7_onLine_57 : decode cX7_onLine 57 = .ok (.iload_n 2, 1) := by decide +kernel
theorem dX7_onLine_58 : decode cX7_onLine 58 = .ok (.iaload, 1) := by decide +kernel
theorem dX7_onLine_59 : decode cX7_onLine 59 = .ok (.goto 9, 3) := by decide +kernel
theorem dX7_onLine_62 : decode cX7_onLine 62 = .ok (.aload_n 0, 1) := by decide +kernel
theorem dX7_onLine_63 : decode cX7_onLine 63 = .ok (.getfield 13, 3) := by decide +kernel
theorem dX7_onLine_66 : decode cX7_onLine 66 = .ok (.iload_n 1, 1) := by decide +kernel
theorem dX7_onLine_67 : decode cX7_onLine 67 = .ok (.iaload, 1) := by decide +kernel
theorem dX7_onLine_68 : decode cX7_onLine 68 = .ok (.istore 5, 2) := by decide +kernel
theorem dX7_onLine_70 : decode cX7_onLine 70 = .ok (.aload_n 0, 1) := by decide +kernel
theorem dX7_onLine_71 : decode cX7_onLine 71 = .ok (.getfield 16, 3) := by decide +kernel
theorem dX7_onLine_74 : decode cX7_onLine 74 = .ok (.iload_n 1, 1) := by decide +kernel
theorem dX7_onLine_75 : decode cX7_onLine 75 = .ok (.iaload, 1) := by decide +kernel
theorem dX7_onLine_76 : decode cX7_onLine 76 = .ok (.aload_n 0, 1) := by decide +kernel
theorem dX7_onLine_77 : decode cX7_onLine 77 = .ok (.getfield 19, 3) := by decide +kernel
theorem dX7_onLine_80 : decode cX7_onLine 80 = .ok (.iload_n 1, 1) := by decide +kernel
theorem dX7_onLine_81 : decode cX7_onLine 81 = .ok (.iaload, 1) := by decide +kernel
theorem dX7_onLine_82 : decode cX7_onLine 82 = .ok (.aload_n 0, 1) := by decide +kernel
theorem dX7_onLine_83 : decode cX7_onLine 83 = .ok (.getfield 16, 3) := by decide +kernel
theorem dX7_onLine_86 : decode cX7_onLine 86 = .ok (.iload_n 2, 1) := by decide +kernel
theorem dX7_onLine_87 : decode cX7_onLine 87 = .ok (.iaload, 1) := by decide +kernel
theorem dX7_onLine_88 : decode cX7_onLine 88 = .ok (.aload_n 0, 1) := by decide +kernel
theorem dX7_onLine_89 : decode cX7_onLine 89 = .ok (.getfield 19, 3) := by decide +kernel
theorem dX7_onLine_92 : decode cX7_onLine 92 = .ok (.iload_n 2, 1) := by decide +kernel
theorem dX7_onLine_93 : decode cX7_onLine 93 = .ok (.iaload, 1) := by decide +kernel
theorem dX7_onLine_94 : decode cX7_onLine 94 = .ok (.invokestatic 81, 3) := by decide +kernel
theorem dX7_onLine_97 : decode cX7_onLine 97 = .ok (.istore 6, 2) := by decide +kernel
theorem dX7_onLine_99 : decode cX7_onLine 99 = .ok (.iload 6, 2) := by decide +kernel
theorem dX7_onLine_101 : decode cX7_onLine 101 = .ok (.ifCond .eq 12, 3) := by decide +kernel
theorem dX7_onLine_104 : decode cX7_onLine 104 = .ok (.aload_n 0, 1) := by decide +kernel
theorem dX7_onLine_105 : decode cX7_onLine 105 = .ok (.getfield 16, 3) := by decide +kernel
theorem dX7_onLine_108 : decode cX7_onLine 108 = .ok (.iload_n 1, 1) := by decide +kernel
theorem dX7_onLine_109 : decode cX7_onLine 109 = .ok (.iaload, 1) := by decide +kernel
theorem dX7_onLine_110 : decode cX7_onLine 110 = .ok (.goto 9, 3) := by decide +kernel
theorem dX7_onLine_113 : decode cX7_onLine 113 = .ok (.aload_n 0, 1) := by decide +kernel
theorem dX7_onLine_114 : decode cX7_onLine 114 = .ok (.getfield 16, 3) := by decide +kernel
theorem dX7_onLine_117 : decode cX7_onLine 117 = .ok (.iload_n 2, 1) := by decide +kernel
theorem dX7_onLine_118 : decode cX7_onLine 118 = .ok (.iaload, 1) := by decide +kernel
theorem dX7_onLine_119 : decode cX7_onLine 119 = .ok (.istore 7, 2) := by decide +kernel
theorem dX7_onLine_121 : decode cX7_onLine 121 = .ok (.iload 6, 2) := by decide +kernel
theorem dX7_onLine_123 : decode cX7_onLine 123 = .ok (.ifCond .eq 12, 3) := by decide +kernel
theorem dX7_onLine_126 : decode cX7_onLine 126 = .ok (.aload_n 0, 1) := by decide +kernel
theorem dX7_onLine_127 : decode cX7_onLine 127 = .ok (.getfield 19, 3) := by decide +kernel
theorem dX7_onLine_130 : decode cX7_onLine 130 = .ok (.iload_n 1, 1) := by decide +kernel
theorem dX7_onLine_131 : decode cX7_onLine 131 = .ok (.iaload, 1) := by decide +kernel
theorem dX7_onLine_132 : decode cX7_onLine 132 = .ok (.goto 9, 3) := by decide +kernel
theorem dX7_onLine_135 : decode cX7_onLine 135 = .ok (.aload_n 0, 1) := by decide +kernel
theorem dX7_onLine_136 : decode cX7_onLine 136 = .ok (.getfield 19, 3) := by decide +kernel
theorem dX7_onLine_139 : decode cX7_onLine 139 = .ok (.iload_n 2, 1) := by decide +kernel
theorem dX7_onLine_140 : decode cX7_onLine 140 = .ok (.iaload, 1) := by decide +kernel
theorem dX7_onLine_141 : decode cX7_onLine 141 = .ok (.istore 8, 2) := by decide +kernel
theorem dX7_onLine_143 : decode cX7_onLine 143 = .ok (.iload 4, 2) := by decide +kernel
theorem dX7_onLine_145 : decode cX7_onLine 145 = .ok (.iload 5, 2) := by decide +kernel
theorem dX7_onLine_147 : decode cX7_onLine 147 = .ok (.iload 7, 2) := by decide +kernel
theorem dX7_onLine_149 : decode cX7_onLine 149 = .ok (.iload 8, 2) := by decide +kernel
theorem dX7_onLine_151 : decode cX7_onLine 151 = .ok (.invokestatic 81, 3) := by decide +kernel
theorem dX7_onLine_154 : decode cX7_onLine 154 = .ok (.ifCond .eq 7, 3) := by decide +kernel
theorem dX7_onLine_157 : decode cX7_onLine 157 = .ok (.iconst 2, 1) := by decide +kernel
theorem dX7_onLine_158 : decode cX7_onLine 158 = .ok (.goto 22, 3) := by decide +kernel
theorem dX7_onLine_161 : decode cX7_onLine 161 = .ok (.iload 4, 2) := by decide +kernel
theorem dX7_onLine_163 : decode cX7_onLine 163 = .ok (.iload 7, 2) := by decide +kernel
theorem dX7_onLine_165 : decode cX7_onLine 165 = .ok (.if_icmp .ne 14, 3) := by decide +kernel
theorem dX7_onLine_168 : decode cX7_onLine 168 = .ok (.iload 5, 2) := by decide +kernel
theorem dX7_onLine_170 : decode cX7_onLine 170 = .ok (.iload 8, 2) := by decide +kernel
theorem dX7_onLine_172 : decode cX7_onLine 172 = .ok (.if_icmp .ne 7, 3) := by decide +kernel
theorem dX7_onLine_175 : decode cX7_onLine 175 = .ok (.iconst 1, 1) := by decide +kernel
theorem dX7_onLine_176 : decode cX7_onLine 176 = .ok (.goto 4, 3) := by decide +kernel
theorem dX7_onLine_179 : decode cX7_onLine 179 = .ok (.iconst 0, 1) := by decide +kernel
theorem dX7_onLine_180 : decode cX7_onLine 180 = .ok (.ireturn, 1) := by decide +kernel
def f_onLine_b141 (F : Nat) (M : MS) (x4 : Int32) (x5 : Int32) (x7 : Int32) (s0 : Int32) : Option Int32 := cal (f_isBefore F M x4 x5 x7 s0) fun t2 => (if t2 = 0 then (if x4 = x7 then (if x5 = s0 then some 1 else some 0) else some 0) else some 2)
def f_onLine_b119 (F : Nat) (M : MS) (x1 : Int32) (x2 : Int32) (x4 : Int32) (x5 : Int32) (x6 : Int32) (s0 : Int32) : Option Int32 := (if x6 = 0 then rdI 13 (M.2.1 4) x2 fun t2 => f_onLine_b141 F M x4 x5 s0 t2 else rdI 13 (M.2.1 4) x1 fun t5 => f_onLine_b141 F M x4 x5 s0 t5)
def f_onLine_b68 (F : Nat) (M : MS) (x1 : Int32) (x2 : Int32) (x4 : Int32) (s0 : Int32) : Option Int32 := rdI 13 (M.2.1 3) x1 fun t1 => rdI 13 (M.2.1 4) x1 fun t4 => rdI 13 (M.2.1 3) x2 fun t7 => rdI 13 (M.2.1 4) x2 fun t10 => cal (f_isBefore F M t1 t4 t7 t10) fun t14 => (if t14 = 0 then rdI 13 (M.2.1 3) x2 fun t16 => f_onLine_b119 F M x1 x2 x4 s0 t14 t16 else rdI 13 (M.2.1 3) x1 fun t19 => f_onLine_b119 F M x1 x2 x4 s0 t14 t19)
def f_onLine_b47 (F : Nat) (M : MS) (x1 : Int32) (x2 : Int32) (x3 : Int32) (s0 : Int32) : Option Int32 := (if x3 = 0 then rdI 13 (M.2.1 2) x1 fun t2 => f_onLine_b68 F M x1 x2 s0 t2 else rdI 13 (M.2.1 2) x2 fun t5 => f_onLine_b68 F M x1 x2 s0 t5)
def f_onLine (F : Nat) (M : MS) (a1 : Int32) (a2 : Int32) : Option Int32 := rdI 13 (M.2.1 1) a1 fun t1 => rdI 13 (M.2.1 2) a1 fun t4 => rdI 13 (M.2.1 1) a2 fun t7 => rdI 13 (M.2.1 2) a2 fun t10 => cal (f_isBefore F M t1 t4 t7 t10) fun t14 => (if t14 = 0 then rdI 13 (M.2.1 1) a1 fun t16 => f_onLine_b47 F M a1 a2 t14 t16 else rdI 13 (M.2.1 1) a2 fun t19 => f_onLine_b47 F M a1 a2 t14 t19)
set_option maxRecDepth 100000 in
set_option maxHeartbeats 4000000 in
theorem c_onLine (l : Launch) (G : mG) (F : Nat) (M : MS) (a1 : Int32) (a2 : Int32) (r : Int32) (h : f_onLine F M a1 a2 = some r) : mMI l yX7_onLine vX7_onLine ({ frames := 1, cells := 0, slots := 0, locals := 23 }) G [.ref (mO G), .int a1, .int a2] M M r := by
  refine mBodyI (cc := cX7_onLine) (maxL := 9) (ret := (some .int)) (by decide) rfl rfl ?_
  intro sz p e s m below meth c hC hP
  have hC0 := hC
  obtain ⟨hx, hb, -, hts, -, -, -, -, -, -⟩ := hC0
  have hS : va_S (mA G sz) s.heap s.heap [] := va_S.rf
  have hin : ∀ w ∈ wsX70, w ∈ vX7_onLine := fun w h => List.mem_cons_of_mem _ (List.mem_append_right _ h)
  have fl_x1 := hts _ (List.mem_cons_of_mem _ wm_10)
  have fl_y1 := hts _ (List.mem_cons_of_mem _ wm_13)
  have fl_x2 := hts _ (List.mem_cons_of_mem _ wm_9)
  have fl_y2 := hts _ (List.mem_cons_of_mem _ wm_12)
  have b141 : ∀ (H : Heap) (locs : List Loc) (ls : Array Slot) (x4 : Int32) (x5 : Int32) (x7 : Int32) (s0 : Int32), va_P G.1 vwCl (mW G M) H → va_S (mA G sz) s.heap H locs → lv_has ls 9 [(0, .ref (mO G)), (4, .int x4), (5, .int x5), (7, .int x7)] → f_onLine_b141 F M x4 x5 x7 s0 = some r → W p l e (headSpec vX7_onLine ({ frames := 1, cells := 0, slots := 0, locals := 23 })).room s m ([.ref (mO G), .int a1, .int a2] : List Value).toArray below meth c H locs 0 0 (mQI below G M sz ([.ref (mO G), .int a1, .int a2] : List Value).toArray s r) (F0 m 141 ls [.int s0]) := by
    intro H locs ls x4 x5 x7 s0 hP hS hl h
    unfold f_onLine_b141 at h
    refine lv_istore (lv' := [(8, .int s0), (0, .ref (mO G)), (4, .int x4), (5, .int x5), (7, .int x7)]) hx hb dX7_onLine_141 hl (by decide) rfl (fun ls hl => ?_)
    refine lv_iload hx hb dX7_onLine_143 (lv_at hl 2 rfl) ?_
    refine lv_iload hx hb dX7_onLine_145 (lv_at hl 3 rfl) ?_
    refine lv_iload hx hb dX7_onLine_147 (lv_at hl 4 rfl) ?_
    refine lv_iload hx hb dX7_onLine_149 (lv_at hl 0 rfl) ?_
    obtain ⟨t2, e1, h⟩ := cal_el h
    refine m_SI (As := [.int x4, .int x5, .int x7, .int s0]) (rest := []) hC hP hS (c_isBefore l G F M x4 x5 x7 s0 t2 e1) (va_cwS 4 hts (gWMS wm_24 wm_25 wm_7 wm_22) rfl rfl rfl (by decide +kernel) ⟨Nat.le_of_ble_eq_true rfl, Nat.le_of_ble_eq_true rfl⟩) rfl hl.1 rfl (Nat.le_of_ble_eq_true rfl) dX7_onLine_151 (fun H locs hP hS => ?_)
    refine lv_if_eq (tgt := 161) hx hb dX7_onLine_154 (by decide) (fun u3 => ?_) (fun u3 => ?_)
    · have h := ite_t u3 h
      refine lv_iload hx hb dX7_onLine_161 (lv_at hl 2 rfl) ?_
      refine lv_iload hx hb dX7_onLine_163 (lv_at hl 4 rfl) ?_
      refine lv_icmp_ne (tgt := 179) hx hb dX7_onLine_165 (by decide) (fun u4 => ?_) (fun u4 => ?_)
      · have h := ite_f u4 h
        refine lv_iconst (v := 0) hx hb dX7_onLine_179 (by decide) ?_
        cases h
        exact m_iret hC hP hS rfl dX7_onLine_180
      · have h := ite_t u4 h
        refine lv_iload hx hb dX7_onLine_168 (lv_at hl 3 rfl) ?_
        refine lv_iload hx hb dX7_onLine_170 (lv_at hl 0 rfl) ?_
        refine lv_icmp_ne (tgt := 179) hx hb dX7_onLine_172 (by decide) (fun u5 => ?_) (fun u5 => ?_)
        · have h := ite_f u5 h
          refine lv_iconst (v := 0) hx hb dX7_onLine_179 (by decide) ?_
          cases h
          exact m_iret hC hP hS rfl dX7_onLine_180
        · have h := ite_t u5 h
          refine lv_iconst (v := 1) hx hb dX7_onLine_175 (by decide) ?_
          refine lv_goto (tgt := 180) hx hb dX7_onLine_176 (by decide) ?_
          cases h
          exact m_iret hC hP hS rfl dX7_onLine_180
    · have h := ite_f u3 h
      refine lv_iconst (v := 2) hx hb dX7_onLine_157 (by decide) ?_
      refine lv_goto (tgt := 180) hx hb dX7_onLine_158 (by decide) ?_
      cases h
      exact m_iret hC hP hS rfl dX7_onLine_180
  have b119 : ∀ (H : Heap) (locs : List Loc) (ls : Array Slot) (x1 : Int32) (x2 : Int32) (x4 : Int32) (x5 : Int32) (x6 : Int32) (s0 : Int32), va_P G.1 vwCl (mW G M) H → va_S (mA G sz) s.heap H locs → lv_has ls 9 [(0, .ref (mO G)), (1, .int x1), (2, .int x2), (4, .int x4), (5, .int x5), (6, .int x6)] → f_onLine_b119 F M x1 x2 x4 x5 x6 s0 = some r → W p l e (headSpec vX7_onLine ({ frames := 1, cells := 0, slots := 0, locals := 23 })).room s m ([.ref (mO G), .int a1, .int a2] : List Value).toArray below meth c H locs 0 0 (mQI below G M sz ([.ref (mO G), .int a1, .int a2] : List Value).toArray s r) (F0 m 119 ls [.int s0]) := by
    intro H locs ls x1 x2 x4 x5 x6 s0 hP hS hl h
    unfold f_onLine_b119 at h
    refine lv_istore (lv' := [(7, .int s0), (0, .ref (mO G)), (1, .int x1), (2, .int x2), (4, .int x4), (5, .int x5), (6, .int x6)]) hx hb dX7_onLine_119 hl (by decide) rfl (fun ls hl => ?_)
    refine lv_iload hx hb dX7_onLine_121 (lv_at hl 6 rfl) ?_
    refine lv_if_eq (tgt := 135) hx hb dX7_onLine_123 (by decide) (fun u1 => ?_) (fun u1 => ?_)
    · have h := ite_t u1 h
      refine lv_aload_n hx hb dX7_onLine_135 rfl (lv_at hl 1 rfl) ?_
      refine m_get hC hin hP 4 (by decide) fl_y2 rfl (v := .ref (mAd G 4)) rfl dX7_onLine_136 ?_
      refine lv_iload_n hx hb dX7_onLine_139 rfl (lv_at hl 3 rfl) ?_
      obtain ⟨z3, t2, e4, h⟩ := rdI_el h
      refine m_ild hC hP 4 (N := 13) rfl z3 e4 dX7_onLine_140 ?_
      exact b141 _ _ _ x4 x5 s0 t2 hP hS (lv_sub hl [1, 4, 5, 0] rfl) h
    · have h := ite_f u1 h
      refine lv_aload_n hx hb dX7_onLine_126 rfl (lv_at hl 1 rfl) ?_
      refine m_get hC hin hP 4 (by decide) fl_y2 rfl (v := .ref (mAd G 4)) rfl dX7_onLine_127 ?_
      refine lv_iload_n hx hb dX7_onLine_130 rfl (lv_at hl 2 rfl) ?_
      obtain ⟨z6, t5, e7, h⟩ := rdI_el h
      refine m_ild hC hP 4 (N := 13) rfl z6 e7 dX7_onLine_131 ?_
      refine lv_goto (tgt := 141) hx hb dX7_onLine_132 (by decide) ?_
      exact b141 _ _ _ x4 x5 s0 t5 hP hS (lv_sub hl [1, 4, 5, 0] rfl) h
  have b68 : ∀ (H : Heap) (locs : List Loc) (ls : Array Slot) (x1 : Int32) (x2 : Int32) (x4 : Int32) (s0 : Int32), va_P G.1 vwCl (mW G M) H → va_S (mA G sz) s.heap H locs → lv_has ls 9 [(0, .ref (mO G)), (1, .int x1), (2, .int x2), (4, .int x4)] → f_onLine_b68 F M x1 x2 x4 s0 = some r → W p l e (headSpec vX7_onLine ({ frames := 1, cells := 0, slots := 0, locals := 23 })).room s m ([.ref (mO G), .int a1, .int a2] : List Value).toArray below meth c H locs 0 0 (mQI below G M sz ([.ref (mO G), .int a1, .int a2] : List Value).toArray s r) (F0 m 68 ls [.int s0]) := by
    intro H locs ls x1 x2 x4 s0 hP hS hl h
    unfold f_onLine_b68 at h
    refine lv_istore (lv' := [(5, .int s0), (0, .ref (mO G)), (1, .int x1), (2, .int x2), (4, .int x4)]) hx hb dX7_onLine_68 hl (by decide) rfl (fun ls hl => ?_)
    refine lv_aload_n hx hb dX7_onLine_70 rfl (lv_at hl 1 rfl) ?_
    refine m_get hC hin hP 3 (by decide) fl_x2 rfl (v := .ref (mAd G 3)) rfl dX7_onLine_71 ?_
    refine lv_iload_n hx hb dX7_onLine_74 rfl (lv_at hl 2 rfl) ?_
    obtain ⟨z2, t1, e3, h⟩ := rdI_el h
    refine m_ild hC hP 3 (N := 13) rfl z2 e3 dX7_onLine_75 ?_
    refine lv_aload_n hx hb dX7_onLine_76 rfl (lv_at hl 1 rfl) ?_
    refine m_get hC hin hP 4 (by decide) fl_y2 rfl (v := .ref (mAd G 4)) rfl dX7_onLine_77 ?_
    refine lv_iload_n hx hb dX7_onLine_80 rfl (lv_at hl 2 rfl) ?_
    obtain ⟨z5, t4, e6, h⟩ := rdI_el h
    refine m_ild hC hP 4 (N := 13) rfl z5 e6 dX7_onLine_81 ?_
    refine lv_aload_n hx hb dX7_onLine_82 rfl (lv_at hl 1 rfl) ?_
    refine m_get hC hin hP 3 (by decide) fl_x2 rfl (v := .ref (mAd G 3)) rfl dX7_onLine_83 ?_
    refine lv_iload_n hx hb dX7_onLine_86 rfl (lv_at hl 3 rfl) ?_
    obtain ⟨z8, t7, e9, h⟩ := rdI_el h
    refine m_ild hC hP 3 (N := 13) rfl z8 e9 dX7_onLine_87 ?_
    refine lv_aload_n hx hb dX7_onLine_88 rfl (lv_at hl 1 rfl) ?_
    refine m_get hC hin hP 4 (by decide) fl_y2 rfl (v := .ref (mAd G 4)) rfl dX7_onLine_89 ?_
    refine lv_iload_n hx hb dX7_onLine_92 rfl (lv_at hl 3 rfl) ?_
    obtain ⟨z11, t10, e12, h⟩ := rdI_el h
    refine m_ild hC hP 4 (N := 13) rfl z11 e12 dX7_onLine_93 ?_
    obtain ⟨t14, e13, h⟩ := cal_el h
    refine m_SI (As := [.int t1, .int t4, .int t7, .int t10]) (rest := []) hC hP hS (c_isBefore l G F M t1 t4 t7 t10 t14 e13) (va_cwS 4 hts (gWMS wm_24 wm_25 wm_7 wm_22) rfl rfl rfl (by decide +kernel) ⟨Nat.le_of_ble_eq_true rfl, Nat.le_of_ble_eq_true rfl⟩) rfl hl.1 rfl (Nat.le_of_ble_eq_true rfl) dX7_onLine_94 (fun H locs hP hS => ?_)
    refine lv_istore (lv' := [(6, .int t14), (5, .int s0), (0, .ref (mO G)), (1, .int x1), (2, .int x2), (4, .int x4)]) hx hb dX7_onLine_97 hl (by decide) rfl (fun ls hl => ?_)
    refine lv_iload hx hb dX7_onLine_99 (lv_at hl 0 rfl) ?_
    refine lv_if_eq (tgt := 113) hx hb dX7_onLine_101 (by decide) (fun u15 => ?_) (fun u15 => ?_)
    · have h := ite_t u15 h
      refine lv_aload_n hx hb dX7_onLine_113 rfl (lv_at hl 2 rfl) ?_
      refine m_get hC hin hP 3 (by decide) fl_x2 rfl (v := .ref (mAd G 3)) rfl dX7_onLine_114 ?_
      refine lv_iload_n hx hb dX7_onLine_117 rfl (lv_at hl 4 rfl) ?_
      obtain ⟨z17, t16, e18, h⟩ := rdI_el h
      refine m_ild hC hP 3 (N := 13) rfl z17 e18 dX7_onLine_118 ?_
      exact b119 _ _ _ x1 x2 x4 s0 t14 t16 hP hS (lv_sub hl [2, 3, 4, 5, 1, 0] rfl) h
    · have h := ite_f u15 h
      refine lv_aload_n hx hb dX7_onLine_104 rfl (lv_at hl 2 rfl) ?_
      refine m_get hC hin hP 3 (by decide) fl_x2 rfl (v := .ref (mAd G 3)) rfl dX7_onLine_105 ?_
      refine lv_iload_n hx hb dX7_onLine_108 rfl (lv_at hl 3 rfl) ?_
      obtain ⟨z20, t19, e21, h⟩ := rdI_el h
      refine m_ild hC hP 3 (N := 13) rfl z20 e21 dX7_onLine_109 ?_
      refine lv_goto (tgt := 119) hx hb dX7_onLine_110 (by decide) ?_
      exact b119 _ _ _ x1 x2 x4 s0 t14 t19 hP hS (lv_sub hl [2, 3, 4, 5, 1, 0] rfl) h
  have b47 : ∀ (H : Heap) (locs : List Loc) (ls : Array Slot) (x1 : Int32) (x2 : Int32) (x3 : Int32) (s0 : Int32), va_P G.1 vwCl (mW G M) H → va_S (mA G sz) s.heap H locs → lv_has ls 9 [(0, .ref (mO G)), (1, .int x1), (2, .int x2), (3, .int x3)] → f_onLine_b47 F M x1 x2 x3 s0 = some r → W p l e (headSpec vX7_onLine ({ frames := 1, cells := 0, slots := 0, locals := 23 })).room s m ([.ref (mO G), .int a1, .int a2] : List Value).toArray below meth c H locs 0 0 (mQI below G M sz ([.ref (mO G), .int a1, .int a2] : List Value).toArray s r) (F0 m 47 ls [.int s0]) := by
    intro H locs ls x1 x2 x3 s0 hP hS hl h
    unfold f_onLine_b47 at h
    refine lv_istore (lv' := [(4, .int s0), (0, .ref (mO G)), (1, .int x1), (2, .int x2), (3, .int x3)]) hx hb dX7_onLine_47 hl (by decide) rfl (fun ls hl => ?_)
    refine lv_iload_n hx hb dX7_onLine_49 rfl (lv_at hl 4 rfl) ?_
    refine lv_if_eq (tgt := 62) hx hb dX7_onLine_50 (by decide) (fun u1 => ?_) (fun u1 => ?_)
    · have h := ite_t u1 h
      refine lv_aload_n hx hb dX7_onLine_62 rfl (lv_at hl 1 rfl) ?_
      refine m_get hC hin hP 2 (by decide) fl_y1 rfl (v := .ref (mAd G 2)) rfl dX7_onLine_63 ?_
      refine lv_iload_n hx hb dX7_onLine_66 rfl (lv_at hl 2 rfl) ?_
      obtain ⟨z3, t2, e4, h⟩ := rdI_el h
      refine m_ild hC hP 2 (N := 13) rfl z3 e4 dX7_onLine_67 ?_
      exact b68 _ _ _ x1 x2 s0 t2 hP hS (lv_sub hl [1, 2, 3, 0] rfl) h
    · have h := ite_f u1 h
      refine lv_aload_n hx hb dX7_onLine_53 rfl (lv_at hl 1 rfl) ?_
      refine m_get hC hin hP 2 (by decide) fl_y1 rfl (v := .ref (mAd G 2)) rfl dX7_onLine_54 ?_
      refine lv_iload_n hx hb dX7_onLine_57 rfl (lv_at hl 3 rfl) ?_
      obtain ⟨z6, t5, e7, h⟩ := rdI_el h
      refine m_ild hC hP 2 (N := 13) rfl z6 e7 dX7_onLine_58 ?_
      refine lv_goto (tgt := 68) hx hb dX7_onLine_59 (by decide) ?_
      exact b68 _ _ _ x1 x2 s0 t5 hP hS (lv_sub hl [1, 2, 3, 0] rfl) h
  refine m_entry (Nat.le_of_ble_eq_true rfl) (fun ls hl => ?_)
  have hl : lv_has ls 9 [(0, .ref (mO G)), (1, .int a1), (2, .int a2)] := hl
  unfold f_onLine at h
  refine lv_aload_n hx hb dX7_onLine_0 rfl (lv_at hl 0 rfl) ?_
  refine m_get hC hin hP 1 (by decide) fl_x1 rfl (v := .ref (mAd G 1)) rfl dX7_onLine_1 ?_
  refine lv_iload_n hx hb dX7_onLine_4 rfl (lv_at hl 1 rfl) ?_
  obtain ⟨z2, t1, e3, h⟩ := rdI_el h
  refine m_ild hC hP 1 (N := 13) rfl z2 e3 dX7_onLine_5 ?_
  refine lv_aload_n hx hb dX7_onLine_6 rfl (lv_at hl 0 rfl) ?_
  refine m_get hC hin hP 2 (by decide) fl_y1 rfl (v := .ref (mAd G 2)) rfl dX7_onLine_7 ?_
  refine lv_iload_n hx hb dX7_onLine_10 rfl (lv_at hl 1 rfl) ?_
  obtain ⟨z5, t4, e6, h⟩ := rdI_el h
  refine m_ild hC hP 2 (N := 13) rfl z5 e6 dX7_onLine_11 ?_
  refine lv_aload_n hx hb dX7_onLine_12 rfl (lv_at hl 0 rfl) ?_
  refine m_get hC hin hP 1 (by decide) fl_x1 rfl (v := .ref (mAd G 1)) rfl dX7_onLine_13 ?_
  refine lv_iload_n hx hb dX7_onLine_16 rfl (lv_at hl 2 rfl) ?_
  obtain ⟨z8, t7, e9, h⟩ := rdI_el h
  refine m_ild hC hP 1 (N := 13) rfl z8 e9 dX7_onLine_17 ?_
  refine lv_aload_n hx hb dX7_onLine_18 rfl (lv_at hl 0 rfl) ?_
  refine m_get hC hin hP 2 (by decide) fl_y1 rfl (v := .ref (mAd G 2)) rfl dX7_onLine_19 ?_
  refine lv_iload_n hx hb dX7_onLine_22 rfl (lv_at hl 2 rfl) ?_
  obtain ⟨z11, t10, e12, h⟩ := rdI_el h
  refine m_ild hC hP 2 (N := 13) rfl z11 e12 dX7_onLine_23 ?_
  obtain ⟨t14, e13, h⟩ := cal_el h
  refine m_SI (As := [.int t1, .int t4, .int t7, .int t10]) (rest := []) hC hP hS (c_isBefore l G F M t1 t4 t7 t10 t14 e13) (va_cwS 4 hts (gWMS wm_24 wm_25 wm_7 wm_22) rfl rfl rfl (by decide +kernel) ⟨Nat.le_of_ble_eq_true rfl, Nat.le_of_ble_eq_true rfl⟩) rfl hl.1 rfl (Nat.le_of_ble_eq_true rfl) dX7_onLine_24 (fun H locs hP hS => ?_)
  refine lv_istore_n (lv' := [(3, .int t14), (0, .ref (mO G)), (1, .int a1), (2, .int a2)]) hx hb dX7_onLine_27 rfl hl (by decide) rfl (fun ls hl => ?_)
  refine lv_iload_n hx hb dX7_onLine_28 rfl (lv_at hl 0 rfl) ?_
  refine lv_if_eq (tgt := 41) hx hb dX7_onLine_29 (by decide) (fun u15 => ?_) (fun u15 => ?_)
  · have h := ite_t u15 h
    refine lv_aload_n hx hb dX7_onLine_41 rfl (lv_at hl 1 rfl) ?_
    refine m_get hC hin hP 1 (by decide) fl_x1 rfl (v := .ref (mAd G 1)) rfl dX7_onLine_42 ?_
    refine lv_iload_n hx hb dX7_onLine_45 rfl (lv_at hl 2 rfl) ?_
    obtain ⟨z17, t16, e18, h⟩ := rdI_el h
    refine m_ild hC hP 1 (N := 13) rfl z17 e18 dX7_onLine_46 ?_
    exact b47 _ _ _ a1 a2 t14 t16 hP hS (lv_sub hl [1, 2, 3, 0] rfl) h
  · have h := ite_f u15 h
    refine lv_aload_n hx hb dX7_onLine_32 rfl (lv_at hl 1 rfl) ?_
    refine m_get hC hin hP 1 (by decide) fl_x1 rfl (v := .ref (mAd G 1)) rfl dX7_onLine_33 ?_
    refine lv_iload_n hx hb dX7_onLine_36 rfl (lv_at hl 3 rfl) ?_
    obtain ⟨z20, t19, e21, h⟩ := rdI_el h
    refine m_ild hC hP 1 (N := 13) rfl z20 e21 dX7_onLine_37 ?_
    refine lv_goto (tgt := 47) hx hb dX7_onLine_38 (by decide) ?_
    exact b47 _ _ _ a1 a2 t14 t19 hP hS (lv_sub hl [1, 2, 3, 0] rfl) h

theorem dX7_isPart_0 : decode cX7_isPart 0 = .ok (.iload_n 1, 1) := by decide +kernel
theorem dX7_isPart_1 : decode cX7_isPart 1 = .ok (.ifCond .le 20, 3) := by decide +kernel
theorem dX7_isPart_4 : decode cX7_isPart 4 = .ok (.iload_n 0, 1) := by decide +kernel
theorem dX7_isPart_5 : decode cX7_isPart 5 = .ok (.ifCond .lt 12, 3) := by decide +kernel
theorem dX7_isPart_8 : decode cX7_isPart 8 = .ok (.iload_n 0, 1) := by decide +kernel
theorem dX7_isPart_9 : decode cX7_isPart 9 = .ok (.iload_n 1, 1) := by decide +kernel
theorem dX7_isPart_10 : decode cX7_isPart 10 = .ok (.if_icmp .gt 7, 3) := by decide +kernel
theorem dX7_isPart_13 : decode cX7_isPart 13 = .ok (.iconst 1, 1) := by decide +kernel
theorem dX7_isPart_14 : decode cX7_isPart 14 = .ok (.goto 21, 3) := by decide +kernel
theorem dX7_isPart_17 : decode cX7_isPart 17 = .ok (.iconst 0, 1) := by decide +kernel
theorem dX7_isPart_18 : decode cX7_isPart 18 = .ok (.goto 17, 3) := by decide +kernel
theorem dX7_isPart_21 : decode cX7_isPart 21 = .ok (.iload_n 0, 1) := by decide +kernel
theorem dX7_isPart_22 : decode cX7_isPart 22 = .ok (.ifCond .gt 12, 3) := by decide +kernel
theorem dX7_isPart_25 : decode cX7_isPart 25 = .ok (.iload_n 0, 1) := by decide +kernel
theorem dX7_isPart_26 : decode cX7_isPart 26 = .ok (.iload_n 1, 1) := by decide +kernel
theorem dX7_isPart_27 : decode cX7_isPart 27 = .ok (.if_icmp .lt 7, 3) := by decide +kernel
theorem dX7_isPart_30 : decode cX7_isPart 30 = .ok (.iconst 1, 1) := by decide +kernel
theorem dX7_isPart_31 : decode cX7_isPart 31 = .ok (.goto 4, 3) := by decide +kernel
theorem dX7_isPart_34 : decode cX7_isPart 34 = .ok (.iconst 0, 1) := by decide +kernel
theorem dX7_isPart_35 : decode cX7_isPart 35 = .ok (.ireturn, 1) := by decide +kernel
def f_isPart (F : Nat) (M : MS) (a1 : Int32) (a2 : Int32) : Option Int32 := (if a2 ≤ 0 then (if 0 < a1 then okB 0 (some 0) else (if a1 < a2 then okB 0 (some 0) else okB 1 (some 1))) else (if a1 < 0 then okB 0 (some 0) else (if a2 < a1 then okB 0 (some 0) else okB 1 (some 1))))
set_option maxRecDepth 100000 in
set_option maxHeartbeats 4000000 in
theorem c_isPart (l : Launch) (G : mG) (F : Nat) (M : MS) (a1 : Int32) (a2 : Int32) (r : Int32) (h : f_isPart F M a1 a2 = some r) : mMI l yX7_isPart vX7_isPart ({ frames := 0, cells := 0, slots := 0, locals := 0 }) G [.int a1, .int a2] M M r := by
  refine mBodyI (cc := cX7_isPart) (maxL := 2) (ret := (some .boolean)) (by decide) rfl rfl ?_
  intro sz p e s m below meth c hC hP
  have hC0 := hC
  obtain ⟨hx, hb, -, hts, -, -, -, -, -, -⟩ := hC0
  have hS : va_S (mA G sz) s.heap s.heap [] := va_S.rf
  refine m_entry (Nat.le_of_ble_eq_true rfl) (fun ls hl => ?_)
  have hl : lv_has ls 2 [(0, .int a1), (1, .int a2)] := hl
  unfold f_isPart at h
  refine lv_iload_n hx hb dX7_isPart_0 rfl (lv_at hl 1 rfl) ?_
  refine lv_if_le (tgt := 21) hx hb dX7_isPart_1 (by decide) (fun u1 => ?_) (fun u1 => ?_)
  · have h := ite_t u1 h
    refine lv_iload_n hx hb dX7_isPart_21 rfl (lv_at hl 0 rfl) ?_
    refine lv_if_gt (tgt := 34) hx hb dX7_isPart_22 (by decide) (fun u2 => ?_) (fun u2 => ?_)
    · have h := ite_t u2 h
      refine lv_iconst (v := 0) hx hb dX7_isPart_34 (by decide) ?_
      obtain ⟨z3, h⟩ := okB_el h
      cases h
      exact m_zret hC hP hS z3 rfl dX7_isPart_35
    · have h := ite_f u2 h
      refine lv_iload_n hx hb dX7_isPart_25 rfl (lv_at hl 0 rfl) ?_
      refine lv_iload_n hx hb dX7_isPart_26 rfl (lv_at hl 1 rfl) ?_
      refine lv_icmp_lt (tgt := 34) hx hb dX7_isPart_27 (by decide) (fun u4 => ?_) (fun u4 => ?_)
      · have h := ite_t u4 h
        refine lv_iconst (v := 0) hx hb dX7_isPart_34 (by decide) ?_
        obtain ⟨z5, h⟩ := okB_el h
        cases h
        exact m_zret hC hP hS z5 rfl dX7_isPart_35
      · have h := ite_f u4 h
        refine lv_iconst (v := 1) hx hb dX7_isPart_30 (by decide) ?_
        refine lv_goto (tgt := 35) hx hb dX7_isPart_31 (by decide) ?_
        obtain ⟨z6, h⟩ := okB_el h
        cases h
        exact m_zret hC hP hS z6 rfl dX7_isPart_35
  · have h := ite_f u1 h
    refine lv_iload_n hx hb dX7_isPart_4 rfl (lv_at hl 0 rfl) ?_
    refine lv_if_lt (tgt := 17) hx hb dX7_isPart_5 (by decide) (fun u7 => ?_) (fun u7 => ?_)
    · have h := ite_t u7 h
      refine lv_iconst (v := 0) hx hb dX7_isPart_17 (by decide) ?_
      refine lv_goto (tgt := 35) hx hb dX7_isPart_18 (by decide) ?_
      obtain ⟨z8, h⟩ := okB_el h
      cases h
      exact m_zret hC hP hS z8 rfl dX7_isPart_35
    · have h := ite_f u7 h
      refine lv_iload_n hx hb dX7_isPart_8 rfl (lv_at hl 0 rfl) ?_
      refine lv_iload_n hx hb dX7_isPart_9 rfl (lv_at hl 1 rfl) ?_
      refine lv_icmp_gt (tgt := 17) hx hb dX7_isPart_10 (by decide) (fun u9 => ?_) (fun u9 => ?_)
      · have h := ite_t u9 h
        refine lv_iconst (v := 0) hx hb dX7_isPart_17 (by decide) ?_
        refine lv_goto (tgt := 35) hx hb dX7_isPart_18 (by decide) ?_
        obtain ⟨z10, h⟩ := okB_el h
        cases h
        exact m_zret hC hP hS z10 rfl dX7_isPart_35
      · have h := ite_f u9 h
        refine lv_iconst (v := 1) hx hb dX7_isPart_13 (by decide) ?_
        refine lv_goto (tgt := 35) hx hb dX7_isPart_14 (by decide) ?_
        obtain ⟨z11, h⟩ := okB_el h
        cases h
        exact m_zret hC hP hS z11 rfl dX7_isPart_35

theorem dX7_common_0 : decode cX7_common 0 = .ok (.aload_n 0, 1) := by decide +kernel
theorem dX7_common_1 : decode cX7_common 1 = .ok (.iload_n 1, 1) := by decide +kernel
theorem dX7_common_2 : decode cX7_common 2 = .ok (.iload_n 2, 1) := by decide +kernel
theorem dX7_common_3 : decode cX7_common 3 = .ok (.invokevirtual 85, 3) := by decide +kernel
theorem dX7_common_6 : decode cX7_common 6 = .ok (.istore_n 3, 1) := by decide +kernel
theorem dX7_common_7 : decode cX7_common 7 = .ok (.iload_n 3, 1) := by decide +kernel
theorem dX7_common_8 : decode cX7_common 8 = .ok (.ifCond .ne 24, 3) := by decide +kernel
theorem dX7_common_11 : decode cX7_common 11 = .ok (.aload_n 0, 1) := by decide +kernel
theorem dX7_common_12 : decode cX7_common 12 = .ok (.iload_n 1, 1) := by decide +kernel
theorem dX7_common_13 : decode cX7_common 13 = .ok (.iload_n 2, 1) := by decide +kernel
theorem dX7_common_14 : decode cX7_common 14 = .ok (.iload_n 1, 1) := by decide +kernel
theorem dX7_common_15 : decode cX7_common 15 = .ok (.invokevirtual 89, 3) := by decide +kernel
theorem dX7_common_18 : decode cX7_common 18 = .ok (.ifCond .ne 12, 3) := by decide +kernel
theorem dX7_common_21 : decode cX7_common 21 = .ok (.aload_n 0, 1) := by decide +kernel
theorem dX7_common_22 : decode cX7_common 22 = .ok (.iload_n 1, 1) := by decide +kernel
theorem dX7_common_23 : decode cX7_common 23 = .ok (.iload_n 2, 1) := by decide +kernel
theorem dX7_common_24 : decode cX7_common 24 = .ok (.invokevirtual 93, 3) := by decide +kernel
theorem dX7_common_27 : decode cX7_common 27 = .ok (.goto 4, 3) := by decide +kernel
theorem dX7_common_30 : decode cX7_common 30 = .ok (.iconst 0, 1) := by decide +kernel
theorem dX7_common_31 : decode cX7_common 31 = .ok (.ireturn, 1) := by decide +kernel
theorem dX7_common_32 : decode cX7_common 32 = .ok (.aload_n 0, 1) := by decide +kernel
theorem dX7_common_33 : decode cX7_common 33 = .ok (.iload_n 1, 1) := by decide +kernel
theorem dX7_common_34 : decode cX7_common 34 = .ok (.iload_n 2, 1) := by decide +kernel
theorem dX7_common_35 : decode cX7_common 35 = .ok (.iload_n 2, 1) := by decide +kernel
theorem dX7_common_36 : decode cX7_common 36 = .ok (.invokevirtual 89, 3) := by decide +kernel
theorem dX7_common_39 : decode cX7_common 39 = .ok (.iload_n 3, 1) := by decide +kernel
theorem dX7_common_40 : decode cX7_common 40 = .ok (.invokestatic 96, 3) := by decide +kernel
theorem dX7_common_43 : decode cX7_common 43 = .ok (.ifCond .eq 21, 3) := by decide +kernel
theorem dX7_common_46 : decode cX7_common 46 = .ok (.aload_n 0, 1) := by decide +kernel
theorem dX7_common_47 : decode cX7_common 47 = .ok (.iload_n 1, 1) := by decide +kernel
theorem dX7_common_48 : decode cX7_common 48 = .ok (.iload_n 2, 1) := by decide +kernel
theorem dX7_common_49 : decode cX7_common 49 = .ok (.iload_n 1, 1) := by decide +kernel
theorem dX7_common_50 : decode cX7_common 50 = .ok (.invokevirtual 89, 3) := by decide +kernel
theorem dX7_common_53 : decode cX7_common 53 = .ok (.iload_n 3, 1) := by decide +kernel
theorem dX7_common_54 : decode cX7_common 54 = .ok (.invokestatic 96, 3) := by decide +kernel
theorem dX7_common_57 : decode cX7_common 57 = .ok (.ifCond .eq 7, 3) := by decide +kernel
theorem dX7_common_60 : decode cX7_common 60 = .ok (.iconst 1, 1) := by decide +kernel
theorem dX7_common_61 : decode cX7_common 61 = .ok (.goto 4, 3) := by decide +kernel
theorem dX7_common_64 : decode cX7_common 64 = .ok (.iconst 0, 1) := by decide +kernel
theorem dX7_common_65 : decode cX7_common 65 = .ok (.ireturn, 1) := by decide +kernel
def f_common (F : Nat) (M : MS) (a1 : Int32) (a2 : Int32) : Option Int32 := cal (f_cross F M a1 a2) fun t2 => (if t2 = 0 then cal (f_crossTo F M a1 a2 a1) fun t15 => (if t15 = 0 then cal (f_onLine F M a1 a2) fun t18 => some t18 else some 0) else cal (f_crossTo F M a1 a2 a2) fun t5 => cal (f_isPart F M t5 t2) fun t7 => (if t7 = 0 then some 0 else cal (f_crossTo F M a1 a2 a1) fun t10 => cal (f_isPart F M t10 t2) fun t12 => (if t12 = 0 then some 0 else some 1)))
set_option maxRecDepth 100000 in
set_option maxHeartbeats 4000000 in
theorem c_common (l : Launch) (G : mG) (F : Nat) (M : MS) (a1 : Int32) (a2 : Int32) (r : Int32) (h : f_common F M a1 a2 = some r) : mMI l yX7_common vX7_common ({ frames := 2, cells := 0, slots := 0, locals := 51 }) G [.ref (mO G), .int a1, .int a2] M M r := by
  refine mBodyI (cc := cX7_common) (maxL := 4) (ret := (some .int)) (by decide) rfl rfl ?_
  intro sz p e s m below meth c hC hP
  have hC0 := hC
  obtain ⟨hx, hb, -, hts, -, -, -, -, -, -⟩ := hC0
  have hS : va_S (mA G sz) s.heap s.heap [] := va_S.rf
  refine m_entry (Nat.le_of_ble_eq_true rfl) (fun ls hl => ?_)
  have hl : lv_has ls 4 [(0, .ref (mO G)), (1, .int a1), (2, .int a2)] := hl
  unfold f_common at h
  refine lv_aload_n hx hb dX7_common_0 rfl (lv_at hl 0 rfl) ?_
  refine lv_iload_n hx hb dX7_common_1 rfl (lv_at hl 1 rfl) ?_
  refine lv_iload_n hx hb dX7_common_2 rfl (lv_at hl 2 rfl) ?_
  obtain ⟨t2, e1, h⟩ := cal_el h
  refine m_VI (As := [.int a1, .int a2]) (rest := []) hC hP hS (c_cross l G F M a1 a2 t2 e1) (cwV 2 hts (gWM wm_28 wm_29 wm_30 wm_7 wm_14) rfl rfl rfl (by decide +kernel) ⟨Nat.le_of_ble_eq_true rfl, Nat.le_of_ble_eq_true rfl⟩) rfl hl.1 rfl (Nat.le_of_ble_eq_true rfl) dX7_common_3 (fun H locs hP hS => ?_)
  refine lv_istore_n (lv' := [(3, .int t2), (0, .ref (mO G)), (1, .int a1), (2, .int a2)]) hx hb dX7_common_6 rfl hl (by decide) rfl (fun ls hl => ?_)
  refine lv_iload_n hx hb dX7_common_7 rfl (lv_at hl 0 rfl) ?_
  refine lv_if_ne (tgt := 32) hx hb dX7_common_8 (by decide) (fun u3 => ?_) (fun u3 => ?_)
  · have h := ite_f u3 h
    refine lv_aload_n hx hb dX7_common_32 rfl (lv_at hl 1 rfl) ?_
    refine lv_iload_n hx hb dX7_common_33 rfl (lv_at hl 2 rfl) ?_
    refine lv_iload_n hx hb dX7_common_34 rfl (lv_at hl 3 rfl) ?_
    refine lv_iload_n hx hb dX7_common_35 rfl (lv_at hl 3 rfl) ?_
    obtain ⟨t5, e4, h⟩ := cal_el h
    refine m_VI (As := [.int a1, .int a2, .int a2]) (rest := []) hC hP hS (c_crossTo l G F M a1 a2 a2 t5 e4) (cwV 3 hts (gWM wm_31 wm_32 wm_33 wm_7 wm_21) rfl rfl rfl (by decide +kernel) ⟨Nat.le_of_ble_eq_true rfl, Nat.le_of_ble_eq_true rfl⟩) rfl hl.1 rfl (Nat.le_of_ble_eq_true rfl) dX7_common_36 (fun H locs hP hS => ?_)
    refine lv_iload_n hx hb dX7_common_39 rfl (lv_at hl 0 rfl) ?_
    obtain ⟨t7, e6, h⟩ := cal_el h
    refine m_SI (As := [.int t5, .int t2]) (rest := []) hC hP hS (c_isPart l G F M t5 t2 t7 e6) (va_cwS 2 hts (gWMS wm_37 wm_38 wm_7 wm_26) rfl rfl rfl (by decide +kernel) ⟨Nat.le_of_ble_eq_true rfl, Nat.le_of_ble_eq_true rfl⟩) rfl hl.1 rfl (Nat.le_of_ble_eq_true rfl) dX7_common_40 (fun H locs hP hS => ?_)
    refine lv_if_eq (tgt := 64) hx hb dX7_common_43 (by decide) (fun u8 => ?_) (fun u8 => ?_)
    · have h := ite_t u8 h
      refine lv_iconst (v := 0) hx hb dX7_common_64 (by decide) ?_
      cases h
      exact m_iret hC hP hS rfl dX7_common_65
    · have h := ite_f u8 h
      refine lv_aload_n hx hb dX7_common_46 rfl (lv_at hl 1 rfl) ?_
      refine lv_iload_n hx hb dX7_common_47 rfl (lv_at hl 2 rfl) ?_
      refine lv_iload_n hx hb dX7_common_48 rfl (lv_at hl 3 rfl) ?_
      refine lv_iload_n hx hb dX7_common_49 rfl (lv_at hl 2 rfl) ?_
      obtain ⟨t10, e9, h⟩ := cal_el h
      refine m_VI (As := [.int a1, .int a2, .int a1]) (rest := []) hC hP hS (c_crossTo l G F M a1 a2 a1 t10 e9) (cwV 3 hts (gWM wm_31 wm_32 wm_33 wm_7 wm_21) rfl rfl rfl (by decide +kernel) ⟨Nat.le_of_ble_eq_true rfl, Nat.le_of_ble_eq_true rfl⟩) rfl hl.1 rfl (Nat.le_of_ble_eq_true rfl) dX7_common_50 (fun H locs hP hS => ?_)
      refine lv_iload_n hx hb dX7_common_53 rfl (lv_at hl 0 rfl) ?_
      obtain ⟨t12, e11, h⟩ := cal_el h
      refine m_SI (As := [.int t10, .int t2]) (rest := []) hC hP hS (c_isPart l G F M t10 t2 t12 e11) (va_cwS 2 hts (gWMS wm_37 wm_38 wm_7 wm_26) rfl rfl rfl (by decide +kernel) ⟨Nat.le_of_ble_eq_true rfl, Nat.le_of_ble_eq_true rfl⟩) rfl hl.1 rfl (Nat.le_of_ble_eq_true rfl) dX7_common_54 (fun H locs hP hS => ?_)
      refine lv_if_eq (tgt := 64) hx hb dX7_common_57 (by decide) (fun u13 => ?_) (fun u13 => ?_)
      · have h := ite_t u13 h
        refine lv_iconst (v := 0) hx hb dX7_common_64 (by decide) ?_
        cases h
        exact m_iret hC hP hS rfl dX7_common_65
      · have h := ite_f u13 h
        refine lv_iconst (v := 1) hx hb dX7_common_60 (by decide) ?_
        refine lv_goto (tgt := 65) hx hb dX7_common_61 (by decide) ?_
        cases h
        exact m_iret hC hP hS rfl dX7_common_65
  · have h := ite_t u3 h
    refine lv_aload_n hx hb dX7_common_11 rfl (lv_at hl 1 rfl) ?_
    refine lv_iload_n hx hb dX7_common_12 rfl (lv_at hl 2 rfl) ?_
    refine lv_iload_n hx hb dX7_common_13 rfl (lv_at hl 3 rfl) ?_
    refine lv_iload_n hx hb dX7_common_14 rfl (lv_at hl 2 rfl) ?_
    obtain ⟨t15, e14, h⟩ := cal_el h
    refine m_VI (As := [.int a1, .int a2, .int a1]) (rest := []) hC hP hS (c_crossTo l G F M a1 a2 a1 t15 e14) (cwV 3 hts (gWM wm_31 wm_32 wm_33 wm_7 wm_21) rfl rfl rfl (by decide +kernel) ⟨Nat.le_of_ble_eq_true rfl, Nat.le_of_ble_eq_true rfl⟩) rfl hl.1 rfl (Nat.le_of_ble_eq_true rfl) dX7_common_15 (fun H locs hP hS => ?_)
    refine lv_if_ne (tgt := 30) hx hb dX7_common_18 (by decide) (fun u16 => ?_) (fun u16 => ?_)
    · have h := ite_f u16 h
      refine lv_iconst (v := 0) hx hb dX7_common_30 (by decide) ?_
      cases h
      exact m_iret hC hP hS rfl dX7_common_31
    · have h := ite_t u16 h
      refine lv_aload_n hx hb dX7_common_21 rfl (lv_at hl 1 rfl) ?_
      refine lv_iload_n hx hb dX7_common_22 rfl (lv_at hl 2 rfl) ?_
      refine lv_iload_n hx hb dX7_common_23 rfl (lv_at hl 3 rfl) ?_
      obtain ⟨t18, e17, h⟩ := cal_el h
      refine m_VI (As := [.int a1, .int a2]) (rest := []) hC hP hS (c_onLine l G F M a1 a2 t18 e17) (cwV 2 hts (gWM wm_34 wm_35 wm_36 wm_7 wm_23) rfl rfl rfl (by decide +kernel) ⟨Nat.le_of_ble_eq_true rfl, Nat.le_of_ble_eq_true rfl⟩) rfl hl.1 rfl (Nat.le_of_ble_eq_true rfl) dX7_common_24 (fun H locs hP hS => ?_)
      refine lv_goto (tgt := 31) hx hb dX7_common_27 (by decide) ?_
      cases h
      exact m_iret hC hP hS rfl dX7_common_31

theorem dX7_puts_0 : decode cX7_puts 0 = .ok (.iload_n 2, 1) := by decide +kernel
theorem dX7_puts_1 : decode cX7_puts 1 = .ok (.iload_n 3, 1) := by decide +kernel
theorem dX7_puts_2 : decode cX7_puts 2 = .ok (.iload 4, 2) := by decide +kernel
theorem dX7_puts_4 : decode cX7_puts 4 = .ok (.iload 5, 2) := by decide +kernel
theorem dX7_puts_6 : decode cX7_puts 6 = .ok (.invokestatic 81, 3) := by decide +kernel
theorem dX7_puts_9 : decode cX7_puts 9 = .ok (.istore 6, 2) := by decide +kernel
theorem dX7_puts_11 : decode cX7_puts 11 = .ok (.aload_n 0, 1) := by decide +kernel
theorem dX7_puts_12 : decode cX7_puts 12 = .ok (.getfield 7, 3) := by decide +kernel
theorem dX7_puts_15 : decode cX7_puts 15 = .ok (.iload_n 1, 1) := by decide +kernel
theorem dX7_puts_16 : decode cX7_puts 16 = .ok (.iload 6, 2) := by decide +kernel
theorem dX7_puts_18 : decode cX7_puts 18 = .ok (.ifCond .eq 7, 3) := by decide +kernel
theorem dX7_puts_21 : decode cX7_puts 21 = .ok (.iload_n 2, 1) := by decide +kernel
theorem dX7_puts_22 : decode cX7_puts 22 = .ok (.goto 5, 3) := by decide +kernel
theorem dX7_puts_25 : decode cX7_puts 25 = .ok (.iload 4, 2) := by decide +kernel
theorem dX7_puts_27 : decode cX7_puts 27 = .ok (.iastore, 1) := by decide +kernel
theorem dX7_puts_28 : decode cX7_puts 28 = .ok (.aload_n 0, 1) := by decide +kernel
theorem dX7_puts_29 : decode cX7_puts 29 = .ok (.getfield 13, 3) := by decide +kernel
theorem dX7_puts_32 : decode cX7_puts 32 = .ok (.iload_n 1, 1) := by decide +kernel
theorem dX7_puts_33 : decode cX7_puts 33 = .ok (.iload 6, 2) := by decide +kernel
theorem dX7_puts_35 : decode cX7_puts 35 = .ok (.ifCond .eq 7, 3) := by decide +kernel
theorem dX7_puts_38 : decode cX7_puts 38 = .ok (.iload_n 3, 1) := by decide +kernel
theorem dX7_puts_39 : decode cX7_puts 39 = .ok (.goto 5, 3) := by decide +kernel
theorem dX7_puts_42 : decode cX7_puts 42 = .ok (.iload 5, 2) := by decide +kernel
theorem dX7_puts_44 : decode cX7_puts 44 = .ok (.iastore, 1) := by decide +kernel
theorem dX7_puts_45 : decode cX7_puts 45 = .ok (.aload_n 0, 1) := by decide +kernel
theorem dX7_puts_46 : decode cX7_puts 46 = .ok (.getfield 16, 3) := by decide +kernel
theorem dX7_puts_49 : decode cX7_puts 49 = .ok (.iload_n 1, 1) := by decide +kernel
theorem dX7_puts_50 : decode cX7_puts 50 = .ok (.iload 6, 2) := by decide +kernel
theorem dX7_puts_52 : decode cX7_puts 52 = .ok (.ifCond .eq 8, 3) := by decide +kernel
theorem dX7_puts_55 : decode cX7_puts 55 = .ok (.iload 4, 2) := by decide +kernel
theorem dX7_puts_57 : decode cX7_puts 57 = .ok (.goto 4, 3) := by decide +kernel
theorem dX7_puts_60 : decode cX7_puts 60 = .ok (.iload_n 2, 1) := by decide +kernel
theorem dX7_puts_61 : decode cX7_puts 61 = .ok (.iastore, 1) := by decide +kernel
theorem dX7_puts_62 : decode cX7_puts 62 = .ok (.aload_n 0, 1) := by decide +kernel
theorem dX7_puts_63 : decode cX7_puts 63 = .ok (.getfield 19, 3) := by decide +kernel
theorem dX7_puts_66 : decode cX7_puts 66 = .ok (.iload_n 1, 1) := by decide +kernel
theorem dX7_puts_67 : decode cX7_puts 67 = .ok (.iload 6, 2) := by decide +kernel
theorem dX7_puts_69 : decode cX7_puts 69 = .ok (.ifCond .eq 8, 3) := by decide +kernel
theorem dX7_puts_72 : decode cX7_puts 72 = .ok (.iload 5, 2) := by decide +kernel
theorem dX7_puts_74 : decode cX7_puts 74 = .ok (.goto 4, 3) := by decide +kernel
theorem dX7_puts_77 : decode cX7_puts 77 = .ok (.iload_n 3, 1) := by decide +kernel
theorem dX7_puts_78 : decode cX7_puts 78 = .ok (.iastore, 1) := by decide +kernel
theorem dX7_puts_79 : decode cX7_puts 79 = .ok (.return_, 1) := by decide +kernel
def f_puts_b78 (F : Nat) (M : MS) (s0 : Int32) (s1 : Int32) : Option MS := wrI 13 M 4 s1 s0 fun M3 => some M3
def f_puts_b61 (F : Nat) (M : MS) (x1 : Int32) (x3 : Int32) (x5 : Int32) (x6 : Int32) (s0 : Int32) (s1 : Int32) : Option MS := wrI 13 M 3 s1 s0 fun M3 => (if x6 = 0 then f_puts_b78 F M3 x3 x1 else f_puts_b78 F M3 x5 x1)
def f_puts_b44 (F : Nat) (M : MS) (x1 : Int32) (x2 : Int32) (x3 : Int32) (x4 : Int32) (x5 : Int32) (x6 : Int32) (s0 : Int32) (s1 : Int32) : Option MS := wrI 13 M 2 s1 s0 fun M3 => (if x6 = 0 then f_puts_b61 F M3 x1 x3 x5 x6 x2 x1 else f_puts_b61 F M3 x1 x3 x5 x6 x4 x1)
def f_puts_b27 (F : Nat) (M : MS) (x1 : Int32) (x2 : Int32) (x3 : Int32) (x4 : Int32) (x5 : Int32) (x6 : Int32) (s0 : Int32) (s1 : Int32) : Option MS := wrI 13 M 1 s1 s0 fun M3 => (if x6 = 0 then f_puts_b44 F M3 x1 x2 x3 x4 x5 x6 x5 x1 else f_puts_b44 F M3 x1 x2 x3 x4 x5 x6 x3 x1)
def f_puts (F : Nat) (M : MS) (a1 : Int32) (a2 : Int32) (a3 : Int32) (a4 : Int32) (a5 : Int32) : Option MS := cal (f_isBefore F M a2 a3 a4 a5) fun t2 => (if t2 = 0 then f_puts_b27 F M a1 a2 a3 a4 a5 t2 a4 a1 else f_puts_b27 F M a1 a2 a3 a4 a5 t2 a2 a1)
set_option maxRecDepth 100000 in
set_option maxHeartbeats 4000000 in
theorem c_puts (l : Launch) (G : mG) (F : Nat) (M M2 : MS) (a1 : Int32) (a2 : Int32) (a3 : Int32) (a4 : Int32) (a5 : Int32) (h : f_puts F M a1 a2 a3 a4 a5 = some M2) : mMV l yX7_puts vX7_puts ({ frames := 1, cells := 0, slots := 0, locals := 23 }) G [.ref (mO G), .int a1, .int a2, .int a3, .int a4, .int a5] M M2 := by
  refine mBodyV (cc := cX7_puts) (maxL := 7) (ret := none) (by decide) rfl rfl ?_
  intro sz p e s m below meth c hC hP
  have hC0 := hC
  obtain ⟨hx, hb, -, hts, -, -, -, -, -, -⟩ := hC0
  have hS : va_S (mA G sz) s.heap s.heap [] := va_S.rf
  have hin : ∀ w ∈ wsX70, w ∈ vX7_puts := fun w h => List.mem_cons_of_mem _ (List.mem_append_right _ h)
  have fl_x1 := hts _ (List.mem_cons_of_mem _ wm_10)
  have fl_y1 := hts _ (List.mem_cons_of_mem _ wm_13)
  have fl_x2 := hts _ (List.mem_cons_of_mem _ wm_9)
  have fl_y2 := hts _ (List.mem_cons_of_mem _ wm_12)
  have b78 : ∀ (H : Heap) (locs : List Loc) (ls : Array Slot) (M : MS) (s0 : Int32) (s1 : Int32), va_P G.1 vwCl (mW G M) H → va_S (mA G sz) s.heap H locs → lv_has ls 7 [(0, .ref (mO G))] → f_puts_b78 F M s0 s1 = some M2 → W p l e (headSpec vX7_puts ({ frames := 1, cells := 0, slots := 0, locals := 23 })).room s m ([.ref (mO G), .int a1, .int a2, .int a3, .int a4, .int a5] : List Value).toArray below meth c H locs 0 0 (mQV below G M2 sz ([.ref (mO G), .int a1, .int a2, .int a3, .int a4, .int a5] : List Value).toArray s) (F0 m 78 ls [.int s0, .int s1, .ref (mAd G 4)]) := by
    intro H locs ls M s0 s1 hP hS hl h
    unfold f_puts_b78 at h
    obtain ⟨z1, M3, e2, h⟩ := wrI_el h
    refine m_ist hC hP hS 4 (N := 13) rfl z1 (maset_4 G) e2 dX7_puts_78 (fun H locs hP hS => ?_)
    cases h
    exact m_vret hC hP hS dX7_puts_79
  have b61 : ∀ (H : Heap) (locs : List Loc) (ls : Array Slot) (M : MS) (x1 : Int32) (x3 : Int32) (x5 : Int32) (x6 : Int32) (s0 : Int32) (s1 : Int32), va_P G.1 vwCl (mW G M) H → va_S (mA G sz) s.heap H locs → lv_has ls 7 [(0, .ref (mO G)), (1, .int x1), (3, .int x3), (5, .int x5), (6, .int x6)] → f_puts_b61 F M x1 x3 x5 x6 s0 s1 = some M2 → W p l e (headSpec vX7_puts ({ frames := 1, cells := 0, slots := 0, locals := 23 })).room s m ([.ref (mO G), .int a1, .int a2, .int a3, .int a4, .int a5] : List Value).toArray below meth c H locs 0 0 (mQV below G M2 sz ([.ref (mO G), .int a1, .int a2, .int a3, .int a4, .int a5] : List Value).toArray s) (F0 m 61 ls [.int s0, .int s1, .ref (mAd G 3)]) := by
    intro H locs ls M x1 x3 x5 x6 s0 s1 hP hS hl h
    unfold f_puts_b61 at h
    obtain ⟨z1, M3, e2, h⟩ := wrI_el h
    refine m_ist hC hP hS 3 (N := 13) rfl z1 (maset_3 G) e2 dX7_puts_61 (fun H locs hP hS => ?_)
    refine lv_aload_n hx hb dX7_puts_62 rfl (lv_at hl 0 rfl) ?_
    refine m_get hC hin hP 4 (by decide) fl_y2 rfl (v := .ref (mAd G 4)) rfl dX7_puts_63 ?_
    refine lv_iload_n hx hb dX7_puts_66 rfl (lv_at hl 1 rfl) ?_
    refine lv_iload hx hb dX7_puts_67 (lv_at hl 4 rfl) ?_
    refine lv_if_eq (tgt := 77) hx hb dX7_puts_69 (by decide) (fun u4 => ?_) (fun u4 => ?_)
    · have h := ite_t u4 h
      refine lv_iload_n hx hb dX7_puts_77 rfl (lv_at hl 2 rfl) ?_
      exact b78 _ _ _ M3 x3 x1 hP hS (lv_sub hl [0] rfl) h
    · have h := ite_f u4 h
      refine lv_iload hx hb dX7_puts_72 (lv_at hl 3 rfl) ?_
      refine lv_goto (tgt := 78) hx hb dX7_puts_74 (by decide) ?_
      exact b78 _ _ _ M3 x5 x1 hP hS (lv_sub hl [0] rfl) h
  have b44 : ∀ (H : Heap) (locs : List Loc) (ls : Array Slot) (M : MS) (x1 : Int32) (x2 : Int32) (x3 : Int32) (x4 : Int32) (x5 : Int32) (x6 : Int32) (s0 : Int32) (s1 : Int32), va_P G.1 vwCl (mW G M) H → va_S (mA G sz) s.heap H locs → lv_has ls 7 [(0, .ref (mO G)), (1, .int x1), (2, .int x2), (3, .int x3), (4, .int x4), (5, .int x5), (6, .int x6)] → f_puts_b44 F M x1 x2 x3 x4 x5 x6 s0 s1 = some M2 → W p l e (headSpec vX7_puts ({ frames := 1, cells := 0, slots := 0, locals := 23 })).room s m ([.ref (mO G), .int a1, .int a2, .int a3, .int a4, .int a5] : List Value).toArray below meth c H locs 0 0 (mQV below G M2 sz ([.ref (mO G), .int a1, .int a2, .int a3, .int a4, .int a5] : List Value).toArray s) (F0 m 44 ls [.int s0, .int s1, .ref (mAd G 2)]) := by
    intro H locs ls M x1 x2 x3 x4 x5 x6 s0 s1 hP hS hl h
    unfold f_puts_b44 at h
    obtain ⟨z1, M3, e2, h⟩ := wrI_el h
    refine m_ist hC hP hS 2 (N := 13) rfl z1 (maset_2 G) e2 dX7_puts_44 (fun H locs hP hS => ?_)
    refine lv_aload_n hx hb dX7_puts_45 rfl (lv_at hl 0 rfl) ?_
    refine m_get hC hin hP 3 (by decide) fl_x2 rfl (v := .ref (mAd G 3)) rfl dX7_puts_46 ?_
    refine lv_iload_n hx hb dX7_puts_49 rfl (lv_at hl 1 rfl) ?_
    refine lv_iload hx hb dX7_puts_50 (lv_at hl 6 rfl) ?_
    refine lv_if_eq (tgt := 60) hx hb dX7_puts_52 (by decide) (fun u4 => ?_) (fun u4 => ?_)
    · have h := ite_t u4 h
      refine lv_iload_n hx hb dX7_puts_60 rfl (lv_at hl 2 rfl) ?_
      exact b61 _ _ _ M3 x1 x3 x5 x6 x2 x1 hP hS (lv_sub hl [0, 1, 3, 5, 6] rfl) h
    · have h := ite_f u4 h
      refine lv_iload hx hb dX7_puts_55 (lv_at hl 4 rfl) ?_
      refine lv_goto (tgt := 61) hx hb dX7_puts_57 (by decide) ?_
      exact b61 _ _ _ M3 x1 x3 x5 x6 x4 x1 hP hS (lv_sub hl [0, 1, 3, 5, 6] rfl) h
  have b27 : ∀ (H : Heap) (locs : List Loc) (ls : Array Slot) (M : MS) (x1 : Int32) (x2 : Int32) (x3 : Int32) (x4 : Int32) (x5 : Int32) (x6 : Int32) (s0 : Int32) (s1 : Int32), va_P G.1 vwCl (mW G M) H → va_S (mA G sz) s.heap H locs → lv_has ls 7 [(0, .ref (mO G)), (1, .int x1), (2, .int x2), (3, .int x3), (4, .int x4), (5, .int x5), (6, .int x6)] → f_puts_b27 F M x1 x2 x3 x4 x5 x6 s0 s1 = some M2 → W p l e (headSpec vX7_puts ({ frames := 1, cells := 0, slots := 0, locals := 23 })).room s m ([.ref (mO G), .int a1, .int a2, .int a3, .int a4, .int a5] : List Value).toArray below meth c H locs 0 0 (mQV below G M2 sz ([.ref (mO G), .int a1, .int a2, .int a3, .int a4, .int a5] : List Value).toArray s) (F0 m 27 ls [.int s0, .int s1, .ref (mAd G 1)]) := by
    intro H locs ls M x1 x2 x3 x4 x5 x6 s0 s1 hP hS hl h
    unfold f_puts_b27 at h
    obtain ⟨z1, M3, e2, h⟩ := wrI_el h
    refine m_ist hC hP hS 1 (N := 13) rfl z1 (maset_1 G) e2 dX7_puts_27 (fun H locs hP hS => ?_)
    refine lv_aload_n hx hb dX7_puts_28 rfl (lv_at hl 0 rfl) ?_
    refine m_get hC hin hP 2 (by decide) fl_y1 rfl (v := .ref (mAd G 2)) rfl dX7_puts_29 ?_
    refine lv_iload_n hx hb dX7_puts_32 rfl (lv_at hl 1 rfl) ?_
    refine lv_iload hx hb dX7_puts_33 (lv_at hl 6 rfl) ?_
    refine lv_if_eq (tgt := 42) hx hb dX7_puts_35 (by decide) (fun u4 => ?_) (fun u4 => ?_)
    · have h := ite_t u4 h
      refine lv_iload hx hb dX7_puts_42 (lv_at hl 5 rfl) ?_
      exact b44 _ _ _ M3 x1 x2 x3 x4 x5 x6 x5 x1 hP hS (lv_sub hl [0, 1, 2, 3, 4, 5, 6] rfl) h
    · have h := ite_f u4 h
      refine lv_iload_n hx hb dX7_puts_38 rfl (lv_at hl 3 rfl) ?_
      refine lv_goto (tgt := 44) hx hb dX7_puts_39 (by decide) ?_
      exact b44 _ _ _ M3 x1 x2 x3 x4 x5 x6 x3 x1 hP hS (lv_sub hl [0, 1, 2, 3, 4, 5, 6] rfl) h
  refine m_entry (Nat.le_of_ble_eq_true rfl) (fun ls hl => ?_)
  have hl : lv_has ls 7 [(0, .ref (mO G)), (1, .int a1), (2, .int a2), (3, .int a3), (4, .int a4), (5, .int a5)] := hl
  unfold f_puts at h
  refine lv_iload_n hx hb dX7_puts_0 rfl (lv_at hl 2 rfl) ?_
  refine lv_iload_n hx hb dX7_puts_1 rfl (lv_at hl 3 rfl) ?_
  refine lv_iload hx hb dX7_puts_2 (lv_at hl 4 rfl) ?_
  refine lv_iload hx hb dX7_puts_4 (lv_at hl 5 rfl) ?_
  obtain ⟨t2, e1, h⟩ := cal_el h
  refine m_SI (As := [.int a2, .int a3, .int a4, .int a5]) (rest := []) hC hP hS (c_isBefore l G F M a2 a3 a4 a5 t2 e1) (va_cwS 4 hts (gWMS wm_24 wm_25 wm_7 wm_22) rfl rfl rfl (by decide +kernel) ⟨Nat.le_of_ble_eq_true rfl, Nat.le_of_ble_eq_true rfl⟩) rfl hl.1 rfl (Nat.le_of_ble_eq_true rfl) dX7_puts_6 (fun H locs hP hS => ?_)
  refine lv_istore (lv' := [(6, .int t2), (0, .ref (mO G)), (1, .int a1), (2, .int a2), (3, .int a3), (4, .int a4), (5, .int a5)]) hx hb dX7_puts_9 hl (by decide) rfl (fun ls hl => ?_)
  refine lv_aload_n hx hb dX7_puts_11 rfl (lv_at hl 1 rfl) ?_
  refine m_get hC hin hP 1 (by decide) fl_x1 rfl (v := .ref (mAd G 1)) rfl dX7_puts_12 ?_
  refine lv_iload_n hx hb dX7_puts_15 rfl (lv_at hl 2 rfl) ?_
  refine lv_iload hx hb dX7_puts_16 (lv_at hl 0 rfl) ?_
  refine lv_if_eq (tgt := 25) hx hb dX7_puts_18 (by decide) (fun u3 => ?_) (fun u3 => ?_)
  · have h := ite_t u3 h
    refine lv_iload hx hb dX7_puts_25 (lv_at hl 5 rfl) ?_
    exact b27 _ _ _ M a1 a2 a3 a4 a5 t2 a4 a1 hP hS (lv_sub hl [1, 2, 3, 4, 5, 6, 0] rfl) h
  · have h := ite_f u3 h
    refine lv_iload_n hx hb dX7_puts_21 rfl (lv_at hl 3 rfl) ?_
    refine lv_goto (tgt := 27) hx hb dX7_puts_22 (by decide) ?_
    exact b27 _ _ _ M a1 a2 a3 a4 a5 t2 a2 a1 hP hS (lv_sub hl [1, 2, 3, 4, 5, 6, 0] rfl) h

theorem dX7_compare_0 : decode cX7_compare 0 = .ok (.lload_n 0, 1) := by decide +kernel
theorem dX7_compare_1 : decode cX7_compare 1 = .ok (.lload 6, 2) := by decide +kernel
theorem dX7_compare_3 : decode cX7_compare 3 = .ok (.lmul, 1) := by decide +kernel
theorem dX7_compare_4 : decode cX7_compare 4 = .ok (.lload 4, 2) := by decide +kernel
theorem dX7_compare_6 : decode cX7_compare 6 = .ok (.lload_n 2, 1) := by decide +kernel
theorem dX7_compare_7 : decode cX7_compare 7 = .ok (.lmul, 1) := by decide +kernel
theorem dX7_compare_8 : decode cX7_compare 8 = .ok (.lsub, 1) := by decide +kernel
theorem dX7_compare_9 : decode cX7_compare 9 = .ok (.lstore 8, 2) := by decide +kernel
theorem dX7_compare_11 : decode cX7_compare 11 = .ok (.lload 8, 2) := by decide +kernel
theorem dX7_compare_13 : decode cX7_compare 13 = .ok (.lconst 0, 1) := by decide +kernel
theorem dX7_compare_14 : decode cX7_compare 14 = .ok (.lcmp, 1) := by decide +kernel
theorem dX7_compare_15 : decode cX7_compare 15 = .ok (.ifCond .ge 7, 3) := by decide +kernel
theorem dX7_compare_18 : decode cX7_compare 18 = .ok (.iconst (-1), 1) := by decide +kernel
theorem dX7_compare_19 : decode cX7_compare 19 = .ok (.goto 15, 3) := by decide +kernel
theorem dX7_compare_22 : decode cX7_compare 22 = .ok (.lload 8, 2) := by decide +kernel
theorem dX7_compare_24 : decode cX7_compare 24 = .ok (.lconst 0, 1) := by decide +kernel
theorem dX7_compare_25 : decode cX7_compare 25 = .ok (.lcmp, 1) := by decide +kernel
theorem dX7_compare_26 : decode cX7_compare 26 = .ok (.ifCond .le 7, 3) := by decide +kernel
theorem dX7_compare_29 : decode cX7_compare 29 = .ok (.iconst 1, 1) := by decide +kernel
theorem dX7_compare_30 : decode cX7_compare 30 = .ok (.goto 4, 3) := by decide +kernel
theorem dX7_compare_33 : decode cX7_compare 33 = .ok (.iconst 0, 1) := by decide +kernel
theorem dX7_compare_34 : decode cX7_compare 34 = .ok (.ireturn, 1) := by decide +kernel
def f_compare (F : Nat) (M : MS) (a1 : Int64) (a2 : Int64) (a3 : Int64) (a4 : Int64) : Option Int32 := (if 0 ≤ (lg_cmp ((a1 * a4) - (a3 * a2)) 0) then (if (lg_cmp ((a1 * a4) - (a3 * a2)) 0) ≤ 0 then some 0 else some 1) else some ((-1)))
set_option maxRecDepth 100000 in
set_option maxHeartbeats 4000000 in
theorem c_compare (l : Launch) (G : mG) (F : Nat) (M : MS) (a1 : Int64) (a2 : Int64) (a3 : Int64) (a4 : Int64) (r : Int32) (h : f_compare F M a1 a2 a3 a4 = some r) : mMI l yX7_compare vX7_compare ({ frames := 0, cells := 0, slots := 0, locals := 0 }) G [.long a1, .long a2, .long a3, .long a4] M M r := by
  refine mBodyI (cc := cX7_compare) (maxL := 10) (ret := (some .int)) (by decide) rfl rfl ?_
  intro sz p e s m below meth c hC hP
  have hC0 := hC
  obtain ⟨hx, hb, -, hts, -, -, -, -, -, -⟩ := hC0
  have hS : va_S (mA G sz) s.heap s.heap [] := va_S.rf
  refine m_entry (Nat.le_of_ble_eq_true rfl) (fun ls hl => ?_)
  have hl : lv_has ls 10 [(0, .long a1), (2, .long a2), (4, .long a3), (6, .long a4)] := hl
  unfold f_compare at h
  refine lv_lload_n hx hb dX7_compare_0 rfl (lv_at hl 0 rfl) ?_
  refine lv_lload hx hb dX7_compare_1 (lv_at hl 3 rfl) ?_
  refine lv_lmul hx hb dX7_compare_3 ?_
  refine lv_lload hx hb dX7_compare_4 (lv_at hl 2 rfl) ?_
  refine lv_lload_n hx hb dX7_compare_6 rfl (lv_at hl 1 rfl) ?_
  refine lv_lmul hx hb dX7_compare_7 ?_
  refine lv_lsub hx hb dX7_compare_8 ?_
  refine lv_lstore (lv' := [(8, .long ((a1 * a4) - (a3 * a2))), (0, .long a1), (2, .long a2), (4, .long a3), (6, .long a4)]) hx hb dX7_compare_9 hl (by decide) rfl (fun ls hl => ?_)
  refine lv_lload hx hb dX7_compare_11 (lv_at hl 0 rfl) ?_
  refine lv_lconst (v := 0) hx hb dX7_compare_13 (by decide) ?_
  refine W.lcmp hx hb dX7_compare_14 ?_
  refine lv_if_ge (tgt := 22) hx hb dX7_compare_15 (by decide) (fun u1 => ?_) (fun u1 => ?_)
  · have h := ite_t u1 h
    refine lv_lload hx hb dX7_compare_22 (lv_at hl 0 rfl) ?_
    refine lv_lconst (v := 0) hx hb dX7_compare_24 (by decide) ?_
    refine W.lcmp hx hb dX7_compare_25 ?_
    refine lv_if_le (tgt := 33) hx hb dX7_compare_26 (by decide) (fun u2 => ?_) (fun u2 => ?_)
    · have h := ite_t u2 h
      refine lv_iconst (v := 0) hx hb dX7_compare_33 (by decide) ?_
      cases h
      exact m_iret hC hP hS rfl dX7_compare_34
    · have h := ite_f u2 h
      refine lv_iconst (v := 1) hx hb dX7_compare_29 (by decide) ?_
      refine lv_goto (tgt := 34) hx hb dX7_compare_30 (by decide) ?_
      cases h
      exact m_iret hC hP hS rfl dX7_compare_34
  · have h := ite_f u1 h
    refine lv_iconst (v := (-1)) hx hb dX7_compare_18 (by decide) ?_
    refine lv_goto (tgt := 34) hx hb dX7_compare_19 (by decide) ?_
    cases h
    exact m_iret hC hP hS rfl dX7_compare_34

theorem dX7_shared_0 : decode cX7_shared 0 = .ok (.lload_n 0, 1) := by decide +kernel
theorem dX7_shared_1 : decode cX7_shared 1 = .ok (.lconst 0, 1) := by decide +kernel
theorem dX7_shared_2 : decode cX7_shared 2 = .ok (.lcmp, 1) := by decide +kernel
theorem dX7_shared_3 : decode cX7_shared 3 = .ok (.ifCond .ge 8, 3) := by decide +kernel
theorem dX7_shared_6 : decode cX7_shared 6 = .ok (.lload_n 0, 1) := by decide +kernel
theorem dX7_shared_7 : decode cX7_shared 7 = .ok (.lneg, 1) := by decide +kernel
theorem dX7_shared_8 : decode cX7_shared 8 = .ok (.goto 4, 3) := by decide +kernel
theorem dX7_shared_11 : decode cX7_shared 11 = .ok (.lload_n 0, 1) := by decide +kernel
theorem dX7_shared_12 : decode cX7_shared 12 = .ok (.lstore 4, 2) := by decide +kernel
theorem dX7_shared_14 : decode cX7_shared 14 = .ok (.lload_n 2, 1) := by decide +kernel
theorem dX7_shared_15 : decode cX7_shared 15 = .ok (.lstore 6, 2) := by decide +kernel
theorem dX7_shared_17 : decode cX7_shared 17 = .ok (.lload 6, 2) := by decide +kernel
theorem dX7_shared_19 : decode cX7_shared 19 = .ok (.lconst 0, 1) := by decide +kernel
theorem dX7_shared_20 : decode cX7_shared 20 = .ok (.lcmp, 1) := by decide +kernel
theorem dX7_shared_21 : decode cX7_shared 21 = .ok (.ifCond .eq 21, 3) := by decide +kernel
theorem dX7_shared_24 : decode cX7_shared 24 = .ok (.lload 4, 2) := by decide +kernel
theorem dX7_shared_26 : decode cX7_shared 26 = .ok (.lload 6, 2) := by decide +kernel
theorem dX7_shared_28 : decode cX7_shared 28 = .ok (.lrem, 1) := by decide +kernel
theorem dX7_shared_29 : decode cX7_shared 29 = .ok (.lstore 8, 2) := by decide +kernel
theorem dX7_shared_31 : decode cX7_shared 31 = .ok (.lload 6, 2) := by decide +kernel
theorem dX7_shared_33 : decode cX7_shared 33 = .ok (.lstore 4, 2) := by decide +kernel
theorem dX7_shared_35 : decode cX7_shared 35 = .ok (.lload 8, 2) := by decide +kernel
theorem dX7_shared_37 : decode cX7_shared 37 = .ok (.lstore 6, 2) := by decide +kernel
theorem dX7_shared_39 : decode cX7_shared 39 = .ok (.goto (-22), 3) := by decide +kernel
theorem dX7_shared_42 : decode cX7_shared 42 = .ok (.lload 4, 2) := by decide +kernel
theorem dX7_shared_44 : decode cX7_shared 44 = .ok (.lreturn, 1) := by decide +kernel
def f_shared_L17 (F : Nat) (M : MS) : Nat → Int64 → Int64 → Option Int64
  | 0, _, _ => none
  | n17 + 1, x4, x6 => (if (lg_cmp x6 0) = 0 then some x4 else dvL x6 <| (f_shared_L17 F M n17) x6 (x4 - x4 / x6 * x6))
def f_shared (F : Nat) (M : MS) (a1 : Int64) (a2 : Int64) : Option Int64 := (if 0 ≤ (lg_cmp a1 0) then f_shared_L17 F M F a1 a2 else f_shared_L17 F M F (-a1) a2)
set_option maxRecDepth 100000 in
set_option maxHeartbeats 4000000 in
theorem c_shared (l : Launch) (G : mG) (F : Nat) (M : MS) (a1 : Int64) (a2 : Int64) (r : Int64) (h : f_shared F M a1 a2 = some r) : mML l yX7_shared vX7_shared ({ frames := 0, cells := 0, slots := 0, locals := 0 }) G [.long a1, .long a2] M M r := by
  refine mBodyL (cc := cX7_shared) (maxL := 10) (ret := (some .long)) (by decide) rfl rfl ?_
  intro sz p e s m below meth c hC hP
  have hC0 := hC
  obtain ⟨hx, hb, -, hts, -, -, -, -, -, -⟩ := hC0
  have hS : va_S (mA G sz) s.heap s.heap [] := va_S.rf
  have L17 : ∀ (n17 : Nat) (H : Heap) (locs : List Loc) (ls : Array Slot) (x4 : Int64) (x6 : Int64), va_P G.1 vwCl (mW G M) H → va_S (mA G sz) s.heap H locs → lv_has ls 10 [(4, .long x4), (6, .long x6)] → f_shared_L17 F M n17 x4 x6 = some r → W p l e (headSpec vX7_shared ({ frames := 0, cells := 0, slots := 0, locals := 0 })).room s m ([.long a1, .long a2] : List Value).toArray below meth c H locs 0 0 (mQL below G M sz ([.long a1, .long a2] : List Value).toArray s r) (F0 m 17 ls []) := by
    intro n17
    induction n17 with
    | zero =>
      intro H locs ls x4 x6 hP hS hl h
      rw [f_shared_L17] at h; cases h
    | succ n17 ih17 =>
      intro H locs ls x4 x6 hP hS hl h
      rw [f_shared_L17] at h
      refine lv_lload hx hb dX7_shared_17 (lv_at hl 1 rfl) ?_
      refine lv_lconst (v := 0) hx hb dX7_shared_19 (by decide) ?_
      refine W.lcmp hx hb dX7_shared_20 ?_
      refine lv_if_eq (tgt := 42) hx hb dX7_shared_21 (by decide) (fun u1 => ?_) (fun u1 => ?_)
      · have h := ite_t u1 h
        refine lv_lload hx hb dX7_shared_42 (lv_at hl 0 rfl) ?_
        cases h
        exact m_lret hC hP hS rfl dX7_shared_44
      · have h := ite_f u1 h
        refine lv_lload hx hb dX7_shared_24 (lv_at hl 0 rfl) ?_
        refine lv_lload hx hb dX7_shared_26 (lv_at hl 1 rfl) ?_
        obtain ⟨z2, h⟩ := dvL_el h
        refine lv_lrem hx hb dX7_shared_28 z2 ?_
        refine lv_lstore (lv' := [(8, .long (x4 - x4 / x6 * x6)), (4, .long x4), (6, .long x6)]) hx hb dX7_shared_29 hl (by decide) rfl (fun ls hl => ?_)
        refine lv_lload hx hb dX7_shared_31 (lv_at hl 2 rfl) ?_
        refine lv_lstore (lv' := [(4, .long x6), (8, .long (x4 - x4 / x6 * x6)), (6, .long x6)]) hx hb dX7_shared_33 hl (by decide) rfl (fun ls hl => ?_)
        refine lv_lload hx hb dX7_shared_35 (lv_at hl 1 rfl) ?_
        refine lv_lstore (lv' := [(6, .long (x4 - x4 / x6 * x6)), (4, .long x6), (8, .long (x4 - x4 / x6 * x6))]) hx hb dX7_shared_37 hl (by decide) rfl (fun ls hl => ?_)
        refine lv_goto (tgt := 17) hx hb dX7_shared_39 (by decide) ?_
        exact ih17 _ _ _ x6 (x4 - x4 / x6 * x6) hP hS (lv_sub hl [1, 0] rfl) h
  refine m_entry (Nat.le_of_ble_eq_true rfl) (fun ls hl => ?_)
  have hl : lv_has ls 10 [(0, .long a1), (2, .long a2)] := hl
  unfold f_shared at h
  refine lv_lload_n hx hb dX7_shared_0 rfl (lv_at hl 0 rfl) ?_
  refine lv_lconst (v := 0) hx hb dX7_shared_1 (by decide) ?_
  refine W.lcmp hx hb dX7_shared_2 ?_
  refine lv_if_ge (tgt := 11) hx hb dX7_shared_3 (by decide) (fun u1 => ?_) (fun u1 => ?_)
  · have h := ite_t u1 h
    refine lv_lload_n hx hb dX7_shared_11 rfl (lv_at hl 0 rfl) ?_
    refine lv_lstore (lv' := [(4, .long a1), (0, .long a1), (2, .long a2)]) hx hb dX7_shared_12 hl (by decide) rfl (fun ls hl => ?_)
    refine lv_lload_n hx hb dX7_shared_14 rfl (lv_at hl 2 rfl) ?_
    refine lv_lstore (lv' := [(6, .long a2), (4, .long a1), (0, .long a1), (2, .long a2)]) hx hb dX7_shared_15 hl (by decide) rfl (fun ls hl => ?_)
    exact L17 F _ _ _ a1 a2 hP hS (lv_sub hl [1, 0] rfl) h
  · have h := ite_f u1 h
    refine lv_lload_n hx hb dX7_shared_6 rfl (lv_at hl 0 rfl) ?_
    refine lv_lneg hx hb dX7_shared_7 ?_
    refine lv_goto (tgt := 12) hx hb dX7_shared_8 (by decide) ?_
    refine lv_lstore (lv' := [(4, .long (-a1)), (0, .long a1), (2, .long a2)]) hx hb dX7_shared_12 hl (by decide) rfl (fun ls hl => ?_)
    refine lv_lload_n hx hb dX7_shared_14 rfl (lv_at hl 2 rfl) ?_
    refine lv_lstore (lv' := [(6, .long a2), (4, .long (-a1)), (0, .long a1), (2, .long a2)]) hx hb dX7_shared_15 hl (by decide) rfl (fun ls hl => ?_)
    exact L17 F _ _ _ (-a1) a2 hP hS (lv_sub hl [1, 0] rfl) h

theorem dX7_point_0 : decode cX7_point 0 = .ok (.lload 5, 2) := by decide +kernel
theorem dX7_point_2 : decode cX7_point 2 = .ok (.lconst 0, 1) := by decide +kernel
theorem dX7_point_3 : decode cX7_point 3 = .ok (.lcmp, 1) := by decide +kernel
theorem dX7_point_4 : decode cX7_point 4 = .ok (.ifCond .ge 8, 3) := by decide +kernel
theorem dX7_point_7 : decode cX7_point 7 = .ok (.lload_n 1, 1) := by decide +kernel
theorem dX7_point_8 : decode cX7_point 8 = .ok (.lneg, 1) := by decide +kernel
theorem dX7_point_9 : decode cX7_point 9 = .ok (.goto 4, 3) := by decide +kernel
theorem dX7_point_12 : decode cX7_point 12 = .ok (.lload_n 1, 1) := by decide +kernel
theorem dX7_point_13 : decode cX7_point 13 = .ok (.lstore 7, 2) := by decide +kernel
theorem dX7_point_15 : decode cX7_point 15 = .ok (.lload 5, 2) := by decide +kernel
theorem dX7_point_17 : decode cX7_point 17 = .ok (.lconst 0, 1) := by decide +kernel
theorem dX7_point_18 : decode cX7_point 18 = .ok (.lcmp, 1) := by decide +kernel
theorem dX7_point_19 : decode cX7_point 19 = .ok (.ifCond .ge 8, 3) := by decide +kernel
theorem dX7_point_22 : decode cX7_point 22 = .ok (.lload_n 3, 1) := by decide +kernel
theorem dX7_point_23 : decode cX7_point 23 = .ok (.lneg, 1) := by decide +kernel
theorem dX7_point_24 : decode cX7_point 24 = .ok (.goto 4, 3) := by decide +kernel
theorem dX7_point_27 : decode cX7_point 27 = .ok (.lload_n 3, 1) := by decide +kernel
theorem dX7_point_28 : decode cX7_point 28 = .ok (.lstore 9, 2) := by decide +kernel
theorem dX7_point_30 : decode cX7_point 30 = .ok (.lload 5, 2) := by decide +kernel
theorem dX7_point_32 : decode cX7_point 32 = .ok (.lconst 0, 1) := by decide +kernel
theorem dX7_point_33 : decode cX7_point 33 = .ok (.lcmp, 1) := by decide +kernel
theorem dX7_point_34 : decode cX7_point 34 = .ok (.ifCond .ge 9, 3) := by decide +kernel
theorem dX7_point_37 : decode cX7_point 37 = .ok (.lload 5, 2) := by decide +kernel
theorem dX7_point_39 : decode cX7_point 39 = .ok (.lneg, 1) := by decide +kernel
theorem dX7_point_40 : decode cX7_point 40 = .ok (.goto 5, 3) := by decide +kernel
theorem dX7_point_43 : decode cX7_point 43 = .ok (.lload 5, 2) := by decide +kernel
theorem dX7_point_45 : decode cX7_point 45 = .ok (.lstore 11, 2) := by decide +kernel
theorem dX7_point_47 : decode cX7_point 47 = .ok (.aload_n 0, 1) := by decide +kernel
theorem dX7_point_48 : decode cX7_point 48 = .ok (.getfield 123, 3) := by decide +kernel
theorem dX7_point_51 : decode cX7_point 51 = .ok (.istore 13, 2) := by decide +kernel
theorem dX7_point_53 : decode cX7_point 53 = .ok (.iconst 0, 1) := by decide +kernel
theorem dX7_point_54 : decode cX7_point 54 = .ok (.istore 14, 2) := by decide +kernel
theorem dX7_point_56 : decode cX7_point 56 = .ok (.aload_n 0, 1) := by decide +kernel
theorem dX7_point_57 : decode cX7_point 57 = .ok (.getfield 123, 3) := by decide +kernel
theorem dX7_point_60 : decode cX7_point 60 = .ok (.iconst 1, 1) := by decide +kernel
theorem dX7_point_61 : decode cX7_point 61 = .ok (.isub, 1) := by decide +kernel
theorem dX7_point_62 : decode cX7_point 62 = .ok (.istore 15, 2) := by decide +kernel
theorem dX7_point_64 : decode cX7_point 64 = .ok (.iload 15, 2) := by decide +kernel
theorem dX7_point_66 : decode cX7_point 66 = .ok (.ifCond .lt 96, 3) := by decide +kernel
theorem dX7_point_69 : decode cX7_point 69 = .ok (.lload 7, 2) := by decide +kernel
theorem dX7_point_71 : decode cX7_point 71 = .ok (.lload 11, 2) := by decide +kernel
theorem dX7_point_73 : decode cX7_point 73 = .ok (.aload_n 0, 1) := by decide +kernel
theorem dX7_point_74 : decode cX7_point 74 = .ok (.getfield 22, 3) := by decide +kernel
theorem dX7_point_77 : decode cX7_point 77 = .ok (.iload 15, 2) := by decide +kernel
theorem dX7_point_79 : decode cX7_point 79 = .ok (.laload, 1) := by decide +kernel
theorem dX7_point_80 : decode cX7_point 80 = .ok (.aload_n 0, 1) := by decide +kernel
theorem dX7_point_81 : decode cX7_point 81 = .ok (.getfield 26, 3) := by decide +kernel
theorem dX7_point_84 : decode cX7_point 84 = .ok (.iload 15, 2) := by decide +kernel
theorem dX7_point_86 : decode cX7_point 86 = .ok (.laload, 1) := by decide +kernel
theorem dX7_point_87 : decode cX7_point 87 = .ok (.invokestatic 126, 3) := by decide +kernel
theorem dX7_point_90 : decode cX7_point 90 = .ok (.istore 16, 2) := by decide +kernel
theorem dX7_point_92 : decode cX7_point 92 = .ok (.iload 16, 2) := by decide +kernel
theorem dX7_point_94 : decode cX7_point 94 = .ok (.ifCond .ne 27, 3) := by decide +kernel
theorem dX7_point_97 : decode cX7_point 97 = .ok (.lload 9, 2) := by decide +kernel
theorem dX7_point_99 : decode cX7_point 99 = .ok (.lload 11, 2) := by decide +kernel
theorem dX7_point_101 : decode cX7_point 101 = .ok (.aload_n 0, 1) := by decide +kernel
theorem dX7_point_102 : decode cX7_point 102 = .ok (.getfield 29, 3) := by decide +kernel
theorem dX7_point_105 : decode cX7_point 105 = .ok (.iload 15, 2) := by decide +kernel
theorem dX7_point_107 : decode cX7_point 107 = .ok (.laload, 1) := by decide +kernel
theorem dX7_point_108 : decode cX7_point 108 = .ok (.aload_n 0, 1) := by decide +kernel
theorem dX7_point_109 : decode cX7_point 109 = .ok (.getfield 32, 3) := by decide +kernel
theorem dX7_point_112 : decode cX7_point 112 = .ok (.iload 15, 2) := by decide +kernel
theorem dX7_point_114 : decode cX7_point 114 = .ok (.laload, 1) := by decide +kernel
theorem dX7_point_115 : decode cX7_point 115 = .ok (.invokestatic 126, 3) := by decide +kernel
theorem dX7_point_118 : decode cX7_point 118 = .ok (.goto 5, 3) := by decide +kernel
theorem dX7_point_121 : decode cX7_point 121 = .ok (.iload 16, 2) := by decide +kernel
theorem dX7_point_123 : decode cX7_point 123 = .ok (.istore 16, 2) := by decide +kernel
theorem dX7_point_125 : decode cX7_point 125 = .ok (.iload 14, 2) := by decide +kernel
theorem dX7_point_127 : decode cX7_point 127 = .ok (.ifCond .ne 8, 3) := by decide +kernel
theorem dX7_point_130 : decode cX7_point 130 = .ok (.iload 16, 2) := by decide +kernel
theorem dX7_point_132 : decode cX7_point 132 = .ok (.ifCond .ne 7, 3) := by decide +kernel
theorem dX7_point_135 : decode cX7_point 135 = .ok (.iconst 1, 1) := by decide +kernel
theorem dX7_point_136 : decode cX7_point 136 = .ok (.goto 4, 3) := by decide +kernel
theorem dX7_point_139 : decode cX7_point 139 = .ok (.iconst 0, 1) := by decide +kernel
theorem dX7_point_140 : decode cX7_point 140 = .ok (.istore 14, 2) := by decide +kernel
theorem dX7_point_142 : decode cX7_point 142 = .ok (.iload 16, 2) := by decide +kernel
theorem dX7_point_144 : decode cX7_point 144 = .ok (.ifCond .ge 8, 3) := by decide +kernel
theorem dX7_point_147 : decode cX7_point 147 = .ok (.iload 15, 2) := by decide +kernel
theorem dX7_point_149 : decode cX7_point 149 = .ok (.goto 5, 3) := by decide +kernel
theorem dX7_point_152 : decode cX7_point 152 = .ok (.iload 13, 2) := by decide +kernel
theorem dX7_point_154 : decode cX7_point 154 = .ok (.istore 13, 2) := by decide +kernel
theorem dX7_point_156 : decode cX7_point 156 = .ok (.iinc 15 (-1), 3) := by decide +kernel
theorem dX7_point_159 : decode cX7_point 159 = .ok (.goto (-95), 3) := by decide +kernel
theorem dX7_point_162 : decode cX7_point 162 = .ok (.iload 14, 2) := by decide +kernel
theorem dX7_point_164 : decode cX7_point 164 = .ok (.ifCond .ne 164, 3) := by decide +kernel
theorem dX7_point_167 : decode cX7_point 167 = .ok (.aload_n 0, 1) := by decide +kernel
theorem dX7_point_168 : decode cX7_point 168 = .ok (.getfield 123, 3) := by decide +kernel
theorem dX7_point_171 : decode cX7_point 171 = .ok (.istore 15, 2) := by decide +kernel
theorem dX7_point_173 : decode cX7_point 173 = .ok (.iload 15, 2) := by decide +kernel
theorem dX7_point_175 : decode cX7_point 175 = .ok (.iload 13, 2) := by decide +kernel
theorem dX7_point_177 : decode cX7_point 177 = .ok (.if_icmp .le 73, 3) := by decide +kernel
theorem dX7_point_180 : decode cX7_point 180 = .ok (.aload_n 0, 1) := by decide +kernel
theorem dX7_point_181 : decode cX7_point 181 = .ok (.getfield 22, 3) := by decide +kernel
theorem dX7_point_184 : decode cX7_point 184 = .ok (.iload 15, 2) := by decide +kernel
theorem dX7_point_186 : decode cX7_point 186 = .ok (.aload_n 0, 1) := by decide +kernel
theorem dX7_point_187 : decode cX7_point 187 = .ok (.getfield 22, 3) := by decide +kernel
theorem dX7_point_190 : decode cX7_point 190 = .ok (.iload 15, 2) := by decide +kernel
theorem dX7_point_192 : decode cX7_point 192 = .ok (.iconst 1, 1) := by decide +kernel
theorem dX7_point_193 : decode cX7_point 193 = .ok (.isub, 1) := by decide +kernel
theorem dX7_point_194 : decode cX7_point 194 = .ok (.laload, 1) := by decide +kernel
theorem dX7_point_195 : decode cX7_point 195 = .ok (.lastore, 1) := by decide +kernel
theorem dX7_point_196 : decode cX7_point 196 = .ok (.aload_n 0, 1) := by decide +kernel
theorem dX7_point_197 : decode cX7_point 197 = .ok (.getfield 26, 3) := by decide +kernel
theorem dX7_point_200 : decode cX7_point 200 = .ok (.iload 15, 2) := by decide +kernel
theorem dX7_point_202 : decode cX7_point 202 = .ok (.aload_n 0, 1) := by decide +kernel
theorem dX7_point_203 : decode cX7_point 203 = .ok (.getfield 26, 3) := by decide +kernel
theorem dX7_point_206 : decode cX7_point 206 = .ok (.iload 15, 2) := by decide +kernel
theorem dX7_point_208 : decode cX7_point 208 = .ok (.iconst 1, 1) := by decide +kernel
theorem dX7_point_209 : decode cX7_point 209 = .ok (.isub, 1) := by decide +kernel
theorem dX7_point_210 : decode cX7_point 210 = .ok (.laload, 1) := by decide +kernel
theorem dX7_point_211 : decode cX7_point 211 = .ok (.lastore, 1) := by decide +kernel
theorem dX7_point_212 : decode cX7_point 212 = .ok (.aload_n 0, 1) := by decide +kernel
theorem dX7_point_213 : decode cX7_point 213 = .ok (.getfield 29, 3) := by decide +kernel
theorem dX7_point_216 : decode cX7_point 216 = .ok (.iload 15, 2) := by decide +kernel
theorem dX7_point_218 : decode cX7_point 218 = .ok (.aload_n 0, 1) := by decide +kernel
theorem dX7_point_219 : decode cX7_point 219 = .ok (.getfield 29, 3) := by decide +kernel
theorem dX7_point_222 : decode cX7_point 222 = .ok (.iload 15, 2) := by decide +kernel
theorem dX7_point_224 : decode cX7_point 224 = .ok (.iconst 1, 1) := by decide +kernel
theorem dX7_point_225 : decode cX7_point 225 = .ok (.isub, 1) := by decide +kernel
theorem dX7_point_226 : decode cX7_point 226 = .ok (.laload, 1) := by decide +kernel
theorem dX7_point_227 : decode cX7_point 227 = .ok (.lastore, 1) := by decide +kernel
theorem dX7_point_228 : decode cX7_point 228 = .ok (.aload_n 0, 1) := by decide +kernel
theorem dX7_point_229 : decode cX7_point 229 = .ok (.getfield 32, 3) := by decide +kernel
theorem dX7_point_232 : decode cX7_point 232 = .ok (.iload 15, 2) := by decide +kernel
theorem dX7_point_234 : decode cX7_point 234 = .ok (.aload_n 0, 1) := by decide +kernel
theorem dX7_point_235 : decode cX7_point 235 = .ok (.getfield 32, 3) := by decide +kernel
theorem dX7_point_238 : decode cX7_point 238 = .ok (.iload 15, 2) := by decide +kernel
theorem dX7_point_240 : decode cX7_point 240 = .ok (.iconst 1, 1) := by decide +kernel
theorem dX7_point_241 : decode cX7_point 241 = .ok (.isub, 1) := by decide +kernel
theorem dX7_point_242 : decode cX7_point 242 = .ok (.laload, 1) := by decide +kernel
theorem dX7_point_243 : decode cX7_point 243 = .ok (.lastore, 1) := by decide +kernel
theorem dX7_point_244 : decode cX7_point 244 = .ok (.iinc 15 (-1), 3) := by decide +kernel
theorem dX7_point_247 : decode cX7_point 247 = .ok (.goto (-74), 3) := by decide +kernel
theorem dX7_point_250 : decode cX7_point 250 = .ok (.aload_n 0, 1) := by decide +kernel
theorem dX7_point_251 : decode cX7_point 251 = .ok (.getfield 22, 3) := by decide +kernel
theorem dX7_point_254 : decode cX7_point 254 = .ok (.iload 13, 2) := by decide +kernel
theorem dX7_point_256 : decode cX7_point 256 = .ok (.lload 7, 2) := by decide +kernel
theorem dX7_point_258 : decode cX7_point 258 = .ok (.lload 7, 2) := by decide +kernel
theorem dX7_point_260 : decode cX7_point 260 = .ok (.lload 11, 2) := by decide +kernel
theorem dX7_point_262 : decode cX7_point 262 = .ok (.invokestatic 130, 3) := by decide +kernel
theorem dX7_point_265 : decode cX7_point 265 = .ok (.ldiv, 1) := by decide +kernel
theorem dX7_point_266 : decode cX7_point 266 = .ok (.lastore, 1) := by decide +kernel
theorem dX7_point_267 : decode cX7_point 267 = .ok (.aload_n 0, 1) := by decide +kernel
theorem dX7_point_268 : decode cX7_point 268 = .ok (.getfield 26, 3) := by decide +kernel
theorem dX7_point_271 : decode cX7_point 271 = .ok (.iload 13, 2) := by decide +kernel
theorem dX7_point_273 : decode cX7_point 273 = .ok (.lload 11, 2) := by decide +kernel
theorem dX7_point_275 : decode cX7_point 275 = .ok (.lload 7, 2) := by decide +kernel
theorem dX7_point_277 : decode cX7_point 277 = .ok (.lload 11, 2) := by decide +kernel
theorem dX7_point_279 : decode cX7_point 279 = .ok (.invokestatic 130, 3) := by decide +kernel
theorem dX7_point_282 : decode cX7_point 282 = .ok (.ldiv, 1) := by decide +kernel
theorem dX7_point_283 : decode cX7_point 283 = .ok (.lastore, 1) := by decide +kernel
theorem dX7_point_284 : decode cX7_point 284 = .ok (.aload_n 0, 1) := by decide +kernel
theorem dX7_point_285 : decode cX7_point 285 = .ok (.getfield 29, 3) := by decide +kernel
theorem dX7_point_288 : decode cX7_point 288 = .ok (.iload 13, 2) := by decide +kernel
theorem dX7_point_290 : decode cX7_point 290 = .ok (.lload 9, 2) := by decide +kernel
theorem dX7_point_292 : decode cX7_point 292 = .ok (.lload 9, 2) := by decide +kernel
theorem dX7_point_294 : decode cX7_point 294 = .ok (.lload 11, 2) := by decide +kernel
theorem dX7_point_296 : decode cX7_point 296 = .ok (.invokestatic 130, 3) := by decide +kernel
theorem dX7_point_299 : decode cX7_point 299 = .ok (.ldiv, 1) := by decide +kernel
theorem dX7_point_300 : decode cX7_point 300 = .ok (.lastore, 1) := by decide +kernel
theorem dX7_point_301 : decode cX7_point 301 = .ok (.aload_n 0, 1) := by decide +kernel
theorem dX7_point_302 : decode cX7_point 302 = .ok (.getfield 32, 3) := by decide +kernel
theorem dX7_point_305 : decode cX7_point 305 = .ok (.iload 13, 2) := by decide +kernel
theorem dX7_point_307 : decode cX7_point 307 = .ok (.lload 11, 2) := by decide +kernel
theorem dX7_point_309 : decode cX7_point 309 = .ok (.lload 9, 2) := by decide +kernel
theorem dX7_point_311 : decode cX7_point 311 = .ok (.lload 11, 2) := by decide +kernel
theorem dX7_point_313 : decode cX7_point 313 = .ok (.invokestatic 130, 3) := by decide +kernel
theorem dX7_point_316 : decode cX7_point 316 = .ok (.ldiv, 1) := by decide +kernel
theorem dX7_point_317 : decode cX7_point 317 = .ok (.lastore, 1) := by decide +kernel
theorem dX7_point_318 : decode cX7_point 318 = .ok (.aload_n 0, 1) := by decide +kernel
theorem dX7_point_319 : decode cX7_point 319 = .ok (.dup, 1) := by decide +kernel
theorem dX7_point_320 : decode cX7_point 320 = .ok (.getfield 123, 3) := by decide +kernel
theorem dX7_point_323 : decode cX7_point 323 = .ok (.iconst 1, 1) := by decide +kernel
theorem dX7_point_324 : decode cX7_point 324 = .ok (.iadd, 1) := by decide +kernel
theorem dX7_point_325 : decode cX7_point 325 = .ok (.putfield 123, 3) := by decide +kernel
theorem dX7_point_328 : decode cX7_point 328 = .ok (.return_, 1) := by decide +kernel
def f_point_L173 (F : Nat) : Nat → MS → Int64 → Int64 → Int64 → Int32 → Int32 → Option MS
  | 0, _, _, _, _, _, _ => none
  | n173 + 1, M, x7, x9, x11, x13, x15 => (if x15 ≤ x13 then cal (f_shared F M x7 x11) fun t3 => dvL t3 <| wrL 100 M 6 x13 (x7 / t3) fun M7 => cal (f_shared F M7 x7 x11) fun t9 => dvL t9 <| wrL 100 M7 7 x13 (x11 / t9) fun M13 => cal (f_shared F M13 x9 x11) fun t15 => dvL t15 <| wrL 100 M13 8 x13 (x9 / t15) fun M19 => cal (f_shared F M19 x9 x11) fun t21 => dvL t21 <| wrL 100 M19 9 x13 (x11 / t21) fun M25 => wrF M25 5 ((M25.1 5) + 1) fun M26 => some M26 else rdL 100 (M.2.2 6) (x15 - 1) fun t28 => wrL 100 M 6 x15 t28 fun M33 => rdL 100 (M33.2.2 7) (x15 - 1) fun t34 => wrL 100 M33 7 x15 t34 fun M39 => rdL 100 (M39.2.2 8) (x15 - 1) fun t40 => wrL 100 M39 8 x15 t40 fun M45 => rdL 100 (M45.2.2 9) (x15 - 1) fun t46 => wrL 100 M45 9 x15 t46 fun M51 => (f_point_L173 F n173) M51 x7 x9 x11 x13 (x15 + (-1)))
def f_point_b154 (F : Nat) (k64 : MS → Int64 → Int64 → Int64 → Int32 → Int32 → Int32 → Option MS) (M : MS) (x7 : Int64) (x9 : Int64) (x11 : Int64) (x14 : Int32) (x15 : Int32) (s0 : Int32) : Option MS := k64 M x7 x9 x11 s0 x14 (x15 + (-1))
def f_point_b140 (F : Nat) (k64 : MS → Int64 → Int64 → Int64 → Int32 → Int32 → Int32 → Option MS) (M : MS) (x7 : Int64) (x9 : Int64) (x11 : Int64) (x13 : Int32) (x15 : Int32) (x16 : Int32) (s0 : Int32) : Option MS := (if 0 ≤ x16 then f_point_b154 F k64 M x7 x9 x11 s0 x15 x13 else f_point_b154 F k64 M x7 x9 x11 s0 x15 x15)
def f_point_b123 (F : Nat) (k64 : MS → Int64 → Int64 → Int64 → Int32 → Int32 → Int32 → Option MS) (M : MS) (x7 : Int64) (x9 : Int64) (x11 : Int64) (x13 : Int32) (x14 : Int32) (x15 : Int32) (s0 : Int32) : Option MS := (if x14 = 0 then (if s0 = 0 then f_point_b140 F k64 M x7 x9 x11 x13 x15 s0 1 else f_point_b140 F k64 M x7 x9 x11 x13 x15 s0 0) else f_point_b140 F k64 M x7 x9 x11 x13 x15 s0 1)
def f_point_L64 (F : Nat) : Nat → MS → Int64 → Int64 → Int64 → Int32 → Int32 → Int32 → Option MS
  | 0, _, _, _, _, _, _, _ => none
  | n64 + 1, M, x7, x9, x11, x13, x14, x15 => (if x15 < 0 then (if x14 = 0 then f_point_L173 F F M x7 x9 x11 x13 (M.1 5) else some M) else rdL 100 (M.2.2 6) x15 fun t3 => rdL 100 (M.2.2 7) x15 fun t6 => cal (f_compare F M x7 x11 t3 t6) fun t10 => (if t10 = 0 then rdL 100 (M.2.2 8) x15 fun t12 => rdL 100 (M.2.2 9) x15 fun t15 => cal (f_compare F M x9 x11 t12 t15) fun t19 => f_point_b123 F ((f_point_L64 F n64)) M x7 x9 x11 x13 x14 x15 t19 else f_point_b123 F ((f_point_L64 F n64)) M x7 x9 x11 x13 x14 x15 t10))
def f_point_b45 (F : Nat) (M : MS) (x7 : Int64) (x9 : Int64) (s0 : Int64) : Option MS := f_point_L64 F F M x7 x9 s0 (M.1 5) 0 ((M.1 5) - 1)
def f_point_b28 (F : Nat) (M : MS) (x5 : Int64) (x7 : Int64) (s0 : Int64) : Option MS := (if 0 ≤ (lg_cmp x5 0) then f_point_b45 F M x7 s0 x5 else f_point_b45 F M x7 s0 (-x5))
def f_point_b13 (F : Nat) (M : MS) (x3 : Int64) (x5 : Int64) (s0 : Int64) : Option MS := (if 0 ≤ (lg_cmp x5 0) then f_point_b28 F M x5 s0 x3 else f_point_b28 F M x5 s0 (-x3))
def f_point (F : Nat) (M : MS) (a1 : Int64) (a2 : Int64) (a3 : Int64) : Option MS := (if 0 ≤ (lg_cmp a3 0) then f_point_b13 F M a2 a3 a1 else f_point_b13 F M a2 a3 (-a1))
set_option maxRecDepth 100000 in
set_option maxHeartbeats 4000000 in
theorem c_point (l : Launch) (G : mG) (F : Nat) (M M2 : MS) (a1 : Int64) (a2 : Int64) (a3 : Int64) (h : f_point F M a1 a2 a3 = some M2) : mMV l yX7_point vX7_point ({ frames := 1, cells := 0, slots := 0, locals := 29 }) G [.ref (mO G), .long a1, .long a2, .long a3] M M2 := by
  refine mBodyV (cc := cX7_point) (maxL := 17) (ret := none) (by decide) rfl rfl ?_
  intro sz p e s m below meth c hC hP
  have hC0 := hC
  obtain ⟨hx, hb, -, hts, -, -, -, -, -, -⟩ := hC0
  have hS : va_S (mA G sz) s.heap s.heap [] := va_S.rf
  have hin : ∀ w ∈ wsX70, w ∈ vX7_point := fun w h => List.mem_cons_of_mem _ (List.mem_append_right _ h)
  have fl_vertices := hts _ (List.mem_cons_of_mem _ wm_43)
  have fl_xn := hts _ (List.mem_cons_of_mem _ wm_44)
  have fl_xd := hts _ (List.mem_cons_of_mem _ wm_45)
  have fl_yn := hts _ (List.mem_cons_of_mem _ wm_46)
  have fl_yd := hts _ (List.mem_cons_of_mem _ wm_47)
  have L173 : ∀ (n173 : Nat) (H : Heap) (locs : List Loc) (ls : Array Slot) (M : MS) (x7 : Int64) (x9 : Int64) (x11 : Int64) (x13 : Int32) (x15 : Int32), va_P G.1 vwCl (mW G M) H → va_S (mA G sz) s.heap H locs → lv_has ls 17 [(0, .ref (mO G)), (7, .long x7), (9, .long x9), (11, .long x11), (13, .int x13), (15, .int x15)] → f_point_L173 F n173 M x7 x9 x11 x13 x15 = some M2 → W p l e (headSpec vX7_point ({ frames := 1, cells := 0, slots := 0, locals := 29 })).room s m ([.ref (mO G), .long a1, .long a2, .long a3] : List Value).toArray below meth c H locs 0 0 (mQV below G M2 sz ([.ref (mO G), .long a1, .long a2, .long a3] : List Value).toArray s) (F0 m 173 ls []) := by
    intro n173
    induction n173 with
    | zero =>
      intro H locs ls M x7 x9 x11 x13 x15 hP hS hl h
      rw [f_point_L173] at h; cases h
    | succ n173 ih173 =>
      intro H locs ls M x7 x9 x11 x13 x15 hP hS hl h
      rw [f_point_L173] at h
      refine lv_iload hx hb dX7_point_173 (lv_at hl 5 rfl) ?_
      refine lv_iload hx hb dX7_point_175 (lv_at hl 4 rfl) ?_
      refine lv_icmp_le (tgt := 250) hx hb dX7_point_177 (by decide) (fun u1 => ?_) (fun u1 => ?_)
      · have h := ite_t u1 h
        refine lv_aload_n hx hb dX7_point_250 rfl (lv_at hl 0 rfl) ?_
        refine m_get hC hin hP 6 (by decide) fl_xn rfl (v := .ref (mAd G 6)) rfl dX7_point_251 ?_
        refine lv_iload hx hb dX7_point_254 (lv_at hl 4 rfl) ?_
        refine lv_lload hx hb dX7_point_256 (lv_at hl 1 rfl) ?_
        refine lv_lload hx hb dX7_point_258 (lv_at hl 1 rfl) ?_
        refine lv_lload hx hb dX7_point_260 (lv_at hl 3 rfl) ?_
        obtain ⟨t3, e2, h⟩ := cal_el h
        refine m_SL (As := [.long x7, .long x11]) (rest := [.long x7, .int x13, .ref (mAd G 6)]) hC hP hS (c_shared l G F M x7 x11 t3 e2) (va_cwS 2 hts (gWMS wm_50 wm_51 wm_7 wm_41) rfl rfl rfl (by decide +kernel) ⟨Nat.le_of_ble_eq_true rfl, Nat.le_of_ble_eq_true rfl⟩) rfl hl.1 rfl (Nat.le_of_ble_eq_true rfl) dX7_point_262 (fun H locs hP hS => ?_)
        obtain ⟨z4, h⟩ := dvL_el h
        refine lv_ldiv hx hb dX7_point_265 z4 ?_
        obtain ⟨z5, M7, e6, h⟩ := wrL_el h
        refine m_lst hC hP hS 5 (N := 100) rfl z5 (maset_6 G) e6 dX7_point_266 (fun H locs hP hS => ?_)
        refine lv_aload_n hx hb dX7_point_267 rfl (lv_at hl 0 rfl) ?_
        refine m_get hC hin hP 7 (by decide) fl_xd rfl (v := .ref (mAd G 7)) rfl dX7_point_268 ?_
        refine lv_iload hx hb dX7_point_271 (lv_at hl 4 rfl) ?_
        refine lv_lload hx hb dX7_point_273 (lv_at hl 3 rfl) ?_
        refine lv_lload hx hb dX7_point_275 (lv_at hl 1 rfl) ?_
        refine lv_lload hx hb dX7_point_277 (lv_at hl 3 rfl) ?_
        obtain ⟨t9, e8, h⟩ := cal_el h
        refine m_SL (As := [.long x7, .long x11]) (rest := [.long x11, .int x13, .ref (mAd G 7)]) hC hP hS (c_shared l G F M7 x7 x11 t9 e8) (va_cwS 2 hts (gWMS wm_50 wm_51 wm_7 wm_41) rfl rfl rfl (by decide +kernel) ⟨Nat.le_of_ble_eq_true rfl, Nat.le_of_ble_eq_true rfl⟩) rfl hl.1 rfl (Nat.le_of_ble_eq_true rfl) dX7_point_279 (fun H locs hP hS => ?_)
        obtain ⟨z10, h⟩ := dvL_el h
        refine lv_ldiv hx hb dX7_point_282 z10 ?_
        obtain ⟨z11, M13, e12, h⟩ := wrL_el h
        refine m_lst hC hP hS 6 (N := 100) rfl z11 (maset_7 G) e12 dX7_point_283 (fun H locs hP hS => ?_)
        refine lv_aload_n hx hb dX7_point_284 rfl (lv_at hl 0 rfl) ?_
        refine m_get hC hin hP 8 (by decide) fl_yn rfl (v := .ref (mAd G 8)) rfl dX7_point_285 ?_
        refine lv_iload hx hb dX7_point_288 (lv_at hl 4 rfl) ?_
        refine lv_lload hx hb dX7_point_290 (lv_at hl 2 rfl) ?_
        refine lv_lload hx hb dX7_point_292 (lv_at hl 2 rfl) ?_
        refine lv_lload hx hb dX7_point_294 (lv_at hl 3 rfl) ?_
        obtain ⟨t15, e14, h⟩ := cal_el h
        refine m_SL (As := [.long x9, .long x11]) (rest := [.long x9, .int x13, .ref (mAd G 8)]) hC hP hS (c_shared l G F M13 x9 x11 t15 e14) (va_cwS 2 hts (gWMS wm_50 wm_51 wm_7 wm_41) rfl rfl rfl (by decide +kernel) ⟨Nat.le_of_ble_eq_true rfl, Nat.le_of_ble_eq_true rfl⟩) rfl hl.1 rfl (Nat.le_of_ble_eq_true rfl) dX7_point_296 (fun H locs hP hS => ?_)
        obtain ⟨z16, h⟩ := dvL_el h
        refine lv_ldiv hx hb dX7_point_299 z16 ?_
        obtain ⟨z17, M19, e18, h⟩ := wrL_el h
        refine m_lst hC hP hS 7 (N := 100) rfl z17 (maset_8 G) e18 dX7_point_300 (fun H locs hP hS => ?_)
        refine lv_aload_n hx hb dX7_point_301 rfl (lv_at hl 0 rfl) ?_
        refine m_get hC hin hP 9 (by decide) fl_yd rfl (v := .ref (mAd G 9)) rfl dX7_point_302 ?_
        refine lv_iload hx hb dX7_point_305 (lv_at hl 4 rfl) ?_
        refine lv_lload hx hb dX7_point_307 (lv_at hl 3 rfl) ?_
        refine lv_lload hx hb dX7_point_309 (lv_at hl 2 rfl) ?_
        refine lv_lload hx hb dX7_point_311 (lv_at hl 3 rfl) ?_
        obtain ⟨t21, e20, h⟩ := cal_el h
        refine m_SL (As := [.long x9, .long x11]) (rest := [.long x11, .int x13, .ref (mAd G 9)]) hC hP hS (c_shared l G F M19 x9 x11 t21 e20) (va_cwS 2 hts (gWMS wm_50 wm_51 wm_7 wm_41) rfl rfl rfl (by decide +kernel) ⟨Nat.le_of_ble_eq_true rfl, Nat.le_of_ble_eq_true rfl⟩) rfl hl.1 rfl (Nat.le_of_ble_eq_true rfl) dX7_point_313 (fun H locs hP hS => ?_)
        obtain ⟨z22, h⟩ := dvL_el h
        refine lv_ldiv hx hb dX7_point_316 z22 ?_
        obtain ⟨z23, M25, e24, h⟩ := wrL_el h
        refine m_lst hC hP hS 8 (N := 100) rfl z23 (maset_9 G) e24 dX7_point_317 (fun H locs hP hS => ?_)
        refine lv_aload_n hx hb dX7_point_318 rfl (lv_at hl 0 rfl) ?_
        refine lv_dup hx hb dX7_point_319 rfl ?_
        refine m_get hC hin hP 5 (by decide) fl_vertices rfl (v := .int (M25.1 5)) rfl dX7_point_320 ?_
        refine lv_iconst (v := 1) hx hb dX7_point_323 (by decide) ?_
        refine lv_iadd hx hb dX7_point_324 ?_
        obtain ⟨M26, e27, h⟩ := wrF_el h
        refine m_put hC hin hP hS 5 (by decide) fl_vertices rfl rfl (by decide +kernel) (mset_5 G _ _) e27 dX7_point_325 (fun H locs hP hS => ?_)
        cases h
        exact m_vret hC hP hS dX7_point_328
      · have h := ite_f u1 h
        refine lv_aload_n hx hb dX7_point_180 rfl (lv_at hl 0 rfl) ?_
        refine m_get hC hin hP 6 (by decide) fl_xn rfl (v := .ref (mAd G 6)) rfl dX7_point_181 ?_
        refine lv_iload hx hb dX7_point_184 (lv_at hl 5 rfl) ?_
        refine lv_aload_n hx hb dX7_point_186 rfl (lv_at hl 0 rfl) ?_
        refine m_get hC hin hP 6 (by decide) fl_xn rfl (v := .ref (mAd G 6)) rfl dX7_point_187 ?_
        refine lv_iload hx hb dX7_point_190 (lv_at hl 5 rfl) ?_
        refine lv_iconst (v := 1) hx hb dX7_point_192 (by decide) ?_
        refine lv_isub hx hb dX7_point_193 ?_
        obtain ⟨z29, t28, e30, h⟩ := rdL_el h
        refine m_lld hC hP 5 (N := 100) rfl z29 e30 dX7_point_194 ?_
        obtain ⟨z31, M33, e32, h⟩ := wrL_el h
        refine m_lst hC hP hS 5 (N := 100) rfl z31 (maset_6 G) e32 dX7_point_195 (fun H locs hP hS => ?_)
        refine lv_aload_n hx hb dX7_point_196 rfl (lv_at hl 0 rfl) ?_
        refine m_get hC hin hP 7 (by decide) fl_xd rfl (v := .ref (mAd G 7)) rfl dX7_point_197 ?_
        refine lv_iload hx hb dX7_point_200 (lv_at hl 5 rfl) ?_
        refine lv_aload_n hx hb dX7_point_202 rfl (lv_at hl 0 rfl) ?_
        refine m_get hC hin hP 7 (by decide) fl_xd rfl (v := .ref (mAd G 7)) rfl dX7_point_203 ?_
        refine lv_iload hx hb dX7_point_206 (lv_at hl 5 rfl) ?_
        refine lv_iconst (v := 1) hx hb dX7_point_208 (by decide) ?_
        refine lv_isub hx hb dX7_point_209 ?_
        obtain ⟨z35, t34, e36, h⟩ := rdL_el h
        refine m_lld hC hP 6 (N := 100) rfl z35 e36 dX7_point_210 ?_
        obtain ⟨z37, M39, e38, h⟩ := wrL_el h
        refine m_lst hC hP hS 6 (N := 100) rfl z37 (maset_7 G) e38 dX7_point_211 (fun H locs hP hS => ?_)
        refine lv_aload_n hx hb dX7_point_212 rfl (lv_at hl 0 rfl) ?_
        refine m_get hC hin hP 8 (by decide) fl_yn rfl (v := .ref (mAd G 8)) rfl dX7_point_213 ?_
        refine lv_iload hx hb dX7_point_216 (lv_at hl 5 rfl) ?_
        refine lv_aload_n hx hb dX7_point_218 rfl (lv_at hl 0 rfl) ?_
        refine m_get hC hin hP 8 (by decide) fl_yn rfl (v := .ref (mAd G 8)) rfl dX7_point_219 ?_
        refine lv_iload hx hb dX7_point_222 (lv_at hl 5 rfl) ?_
        refine lv_iconst (v := 1) hx hb dX7_point_224 (by decide) ?_
        refine lv_isub hx hb dX7_point_225 ?_
        obtain ⟨z41, t40, e42, h⟩ := rdL_el h
        refine m_lld hC hP 7 (N := 100) rfl z41 e42 dX7_point_226 ?_
        obtain ⟨z43, M45, e44, h⟩ := wrL_el h
        refine m_lst hC hP hS 7 (N := 100) rfl z43 (maset_8 G) e44 dX7_point_227 (fun H locs hP hS => ?_)
        refine lv_aload_n hx hb dX7_point_228 rfl (lv_at hl 0 rfl) ?_
        refine m_get hC hin hP 9 (by decide) fl_yd rfl (v := .ref (mAd G 9)) rfl dX7_point_229 ?_
        refine lv_iload hx hb dX7_point_232 (lv_at hl 5 rfl) ?_
        refine lv_aload_n hx hb dX7_point_234 rfl (lv_at hl 0 rfl) ?_
        refine m_get hC hin hP 9 (by decide) fl_yd rfl (v := .ref (mAd G 9)) rfl dX7_point_235 ?_
        refine lv_iload hx hb dX7_point_238 (lv_at hl 5 rfl) ?_
        refine lv_iconst (v := 1) hx hb dX7_point_240 (by decide) ?_
        refine lv_isub hx hb dX7_point_241 ?_
        obtain ⟨z47, t46, e48, h⟩ := rdL_el h
        refine m_lld hC hP 8 (N := 100) rfl z47 e48 dX7_point_242 ?_
        obtain ⟨z49, M51, e50, h⟩ := wrL_el h
        refine m_lst hC hP hS 8 (N := 100) rfl z49 (maset_9 G) e50 dX7_point_243 (fun H locs hP hS => ?_)
        refine lv_iinc (v := x15 + (-1)) (lv' := [(15, .int (x15 + (-1))), (0, .ref (mO G)), (7, .long x7), (9, .long x9), (11, .long x11), (13, .int x13)]) hx hb dX7_point_244 hl (k := 5) rfl rfl (by decide) rfl (fun ls hl => ?_)
        refine lv_goto (tgt := 173) hx hb dX7_point_247 (by decide) ?_
        exact ih173 _ _ _ M51 x7 x9 x11 x13 (x15 + (-1)) hP hS (lv_sub hl [1, 2, 3, 4, 5, 0] rfl) h
  have L64 : ∀ (n64 : Nat) (H : Heap) (locs : List Loc) (ls : Array Slot) (M : MS) (x7 : Int64) (x9 : Int64) (x11 : Int64) (x13 : Int32) (x14 : Int32) (x15 : Int32), va_P G.1 vwCl (mW G M) H → va_S (mA G sz) s.heap H locs → lv_has ls 17 [(0, .ref (mO G)), (7, .long x7), (9, .long x9), (11, .long x11), (13, .int x13), (14, .int x14), (15, .int x15)] → f_point_L64 F n64 M x7 x9 x11 x13 x14 x15 = some M2 → W p l e (headSpec vX7_point ({ frames := 1, cells := 0, slots := 0, locals := 29 })).room s m ([.ref (mO G), .long a1, .long a2, .long a3] : List Value).toArray below meth c H locs 0 0 (mQV below G M2 sz ([.ref (mO G), .long a1, .long a2, .long a3] : List Value).toArray s) (F0 m 64 ls []) := by
    intro n64
    induction n64 with
    | zero =>
      intro H locs ls M x7 x9 x11 x13 x14 x15 hP hS hl h
      rw [f_point_L64] at h; cases h
    | succ n64 ih64 =>
      have b154 : ∀ (H : Heap) (locs : List Loc) (ls : Array Slot) (M : MS) (x7 : Int64) (x9 : Int64) (x11 : Int64) (x14 : Int32) (x15 : Int32) (s0 : Int32), va_P G.1 vwCl (mW G M) H → va_S (mA G sz) s.heap H locs → lv_has ls 17 [(0, .ref (mO G)), (7, .long x7), (9, .long x9), (11, .long x11), (14, .int x14), (15, .int x15)] → f_point_b154 F ((f_point_L64 F n64)) M x7 x9 x11 x14 x15 s0 = some M2 → W p l e (headSpec vX7_point ({ frames := 1, cells := 0, slots := 0, locals := 29 })).room s m ([.ref (mO G), .long a1, .long a2, .long a3] : List Value).toArray below meth c H locs 0 0 (mQV below G M2 sz ([.ref (mO G), .long a1, .long a2, .long a3] : List Value).toArray s) (F0 m 154 ls [.int s0]) := by
        intro H locs ls M x7 x9 x11 x14 x15 s0 hP hS hl h
        unfold f_point_b154 at h
        refine lv_istore (lv' := [(13, .int s0), (0, .ref (mO G)), (7, .long x7), (9, .long x9), (11, .long x11), (14, .int x14), (15, .int x15)]) hx hb dX7_point_154 hl (by decide) rfl (fun ls hl => ?_)
        refine lv_iinc (v := x15 + (-1)) (lv' := [(15, .int (x15 + (-1))), (13, .int s0), (0, .ref (mO G)), (7, .long x7), (9, .long x9), (11, .long x11), (14, .int x14)]) hx hb dX7_point_156 hl (k := 6) rfl rfl (by decide) rfl (fun ls hl => ?_)
        refine lv_goto (tgt := 64) hx hb dX7_point_159 (by decide) ?_
        exact ih64 _ _ _ M x7 x9 x11 s0 x14 (x15 + (-1)) hP hS (lv_sub hl [2, 3, 4, 5, 1, 6, 0] rfl) h
      have b140 : ∀ (H : Heap) (locs : List Loc) (ls : Array Slot) (M : MS) (x7 : Int64) (x9 : Int64) (x11 : Int64) (x13 : Int32) (x15 : Int32) (x16 : Int32) (s0 : Int32), va_P G.1 vwCl (mW G M) H → va_S (mA G sz) s.heap H locs → lv_has ls 17 [(0, .ref (mO G)), (7, .long x7), (9, .long x9), (11, .long x11), (13, .int x13), (15, .int x15), (16, .int x16)] → f_point_b140 F ((f_point_L64 F n64)) M x7 x9 x11 x13 x15 x16 s0 = some M2 → W p l e (headSpec vX7_point ({ frames := 1, cells := 0, slots := 0, locals := 29 })).room s m ([.ref (mO G), .long a1, .long a2, .long a3] : List Value).toArray below meth c H locs 0 0 (mQV below G M2 sz ([.ref (mO G), .long a1, .long a2, .long a3] : List Value).toArray s) (F0 m 140 ls [.int s0]) := by
        intro H locs ls M x7 x9 x11 x13 x15 x16 s0 hP hS hl h
        unfold f_point_b140 at h
        refine lv_istore (lv' := [(14, .int s0), (0, .ref (mO G)), (7, .long x7), (9, .long x9), (11, .long x11), (13, .int x13), (15, .int x15), (16, .int x16)]) hx hb dX7_point_140 hl (by decide) rfl (fun ls hl => ?_)
        refine lv_iload hx hb dX7_point_142 (lv_at hl 7 rfl) ?_
        refine lv_if_ge (tgt := 152) hx hb dX7_point_144 (by decide) (fun u1 => ?_) (fun u1 => ?_)
        · have h := ite_t u1 h
          refine lv_iload hx hb dX7_point_152 (lv_at hl 5 rfl) ?_
          exact b154 _ _ _ M x7 x9 x11 s0 x15 x13 hP hS (lv_sub hl [1, 2, 3, 4, 0, 6] rfl) h
        · have h := ite_f u1 h
          refine lv_iload hx hb dX7_point_147 (lv_at hl 6 rfl) ?_
          refine lv_goto (tgt := 154) hx hb dX7_point_149 (by decide) ?_
          exact b154 _ _ _ M x7 x9 x11 s0 x15 x15 hP hS (lv_sub hl [1, 2, 3, 4, 0, 6] rfl) h
      have b123 : ∀ (H : Heap) (locs : List Loc) (ls : Array Slot) (M : MS) (x7 : Int64) (x9 : Int64) (x11 : Int64) (x13 : Int32) (x14 : Int32) (x15 : Int32) (s0 : Int32), va_P G.1 vwCl (mW G M) H → va_S (mA G sz) s.heap H locs → lv_has ls 17 [(0, .ref (mO G)), (7, .long x7), (9, .long x9), (11, .long x11), (13, .int x13), (14, .int x14), (15, .int x15)] → f_point_b123 F ((f_point_L64 F n64)) M x7 x9 x11 x13 x14 x15 s0 = some M2 → W p l e (headSpec vX7_point ({ frames := 1, cells := 0, slots := 0, locals := 29 })).room s m ([.ref (mO G), .long a1, .long a2, .long a3] : List Value).toArray below meth c H locs 0 0 (mQV below G M2 sz ([.ref (mO G), .long a1, .long a2, .long a3] : List Value).toArray s) (F0 m 123 ls [.int s0]) := by
        intro H locs ls M x7 x9 x11 x13 x14 x15 s0 hP hS hl h
        unfold f_point_b123 at h
        refine lv_istore (lv' := [(16, .int s0), (0, .ref (mO G)), (7, .long x7), (9, .long x9), (11, .long x11), (13, .int x13), (14, .int x14), (15, .int x15)]) hx hb dX7_point_123 hl (by decide) rfl (fun ls hl => ?_)
        refine lv_iload hx hb dX7_point_125 (lv_at hl 6 rfl) ?_
        refine lv_if_ne (tgt := 135) hx hb dX7_point_127 (by decide) (fun u1 => ?_) (fun u1 => ?_)
        · have h := ite_f u1 h
          refine lv_iconst (v := 1) hx hb dX7_point_135 (by decide) ?_
          refine lv_goto (tgt := 140) hx hb dX7_point_136 (by decide) ?_
          exact b140 _ _ _ M x7 x9 x11 x13 x15 s0 1 hP hS (lv_sub hl [1, 2, 3, 4, 5, 7, 0] rfl) h
        · have h := ite_t u1 h
          refine lv_iload hx hb dX7_point_130 (lv_at hl 0 rfl) ?_
          refine lv_if_ne (tgt := 139) hx hb dX7_point_132 (by decide) (fun u2 => ?_) (fun u2 => ?_)
          · have h := ite_f u2 h
            refine lv_iconst (v := 0) hx hb dX7_point_139 (by decide) ?_
            exact b140 _ _ _ M x7 x9 x11 x13 x15 s0 0 hP hS (lv_sub hl [1, 2, 3, 4, 5, 7, 0] rfl) h
          · have h := ite_t u2 h
            refine lv_iconst (v := 1) hx hb dX7_point_135 (by decide) ?_
            refine lv_goto (tgt := 140) hx hb dX7_point_136 (by decide) ?_
            exact b140 _ _ _ M x7 x9 x11 x13 x15 s0 1 hP hS (lv_sub hl [1, 2, 3, 4, 5, 7, 0] rfl) h
      intro H locs ls M x7 x9 x11 x13 x14 x15 hP hS hl h
      rw [f_point_L64] at h
      refine lv_iload hx hb dX7_point_64 (lv_at hl 6 rfl) ?_
      refine lv_if_lt (tgt := 162) hx hb dX7_point_66 (by decide) (fun u1 => ?_) (fun u1 => ?_)
      · have h := ite_t u1 h
        refine lv_iload hx hb dX7_point_162 (lv_at hl 5 rfl) ?_
        refine lv_if_ne (tgt := 328) hx hb dX7_point_164 (by decide) (fun u2 => ?_) (fun u2 => ?_)
        · have h := ite_f u2 h
          cases h
          exact m_vret hC hP hS dX7_point_328
        · have h := ite_t u2 h
          refine lv_aload_n hx hb dX7_point_167 rfl (lv_at hl 0 rfl) ?_
          refine m_get hC hin hP 5 (by decide) fl_vertices rfl (v := .int (M.1 5)) rfl dX7_point_168 ?_
          refine lv_istore (lv' := [(15, .int (M.1 5)), (0, .ref (mO G)), (7, .long x7), (9, .long x9), (11, .long x11), (13, .int x13), (14, .int x14)]) hx hb dX7_point_171 hl (by decide) rfl (fun ls hl => ?_)
          exact L173 F _ _ _ M x7 x9 x11 x13 (M.1 5) hP hS (lv_sub hl [1, 2, 3, 4, 5, 0] rfl) h
      · have h := ite_f u1 h
        refine lv_lload hx hb dX7_point_69 (lv_at hl 1 rfl) ?_
        refine lv_lload hx hb dX7_point_71 (lv_at hl 3 rfl) ?_
        refine lv_aload_n hx hb dX7_point_73 rfl (lv_at hl 0 rfl) ?_
        refine m_get hC hin hP 6 (by decide) fl_xn rfl (v := .ref (mAd G 6)) rfl dX7_point_74 ?_
        refine lv_iload hx hb dX7_point_77 (lv_at hl 6 rfl) ?_
        obtain ⟨z4, t3, e5, h⟩ := rdL_el h
        refine m_lld hC hP 5 (N := 100) rfl z4 e5 dX7_point_79 ?_
        refine lv_aload_n hx hb dX7_point_80 rfl (lv_at hl 0 rfl) ?_
        refine m_get hC hin hP 7 (by decide) fl_xd rfl (v := .ref (mAd G 7)) rfl dX7_point_81 ?_
        refine lv_iload hx hb dX7_point_84 (lv_at hl 6 rfl) ?_
        obtain ⟨z7, t6, e8, h⟩ := rdL_el h
        refine m_lld hC hP 6 (N := 100) rfl z7 e8 dX7_point_86 ?_
        obtain ⟨t10, e9, h⟩ := cal_el h
        refine m_SI (As := [.long x7, .long x11, .long t3, .long t6]) (rest := []) hC hP hS (c_compare l G F M x7 x11 t3 t6 t10 e9) (va_cwS 4 hts (gWMS wm_48 wm_49 wm_7 wm_40) rfl rfl rfl (by decide +kernel) ⟨Nat.le_of_ble_eq_true rfl, Nat.le_of_ble_eq_true rfl⟩) rfl hl.1 rfl (Nat.le_of_ble_eq_true rfl) dX7_point_87 (fun H locs hP hS => ?_)
        refine lv_istore (lv' := [(16, .int t10), (0, .ref (mO G)), (7, .long x7), (9, .long x9), (11, .long x11), (13, .int x13), (14, .int x14), (15, .int x15)]) hx hb dX7_point_90 hl (by decide) rfl (fun ls hl => ?_)
        refine lv_iload hx hb dX7_point_92 (lv_at hl 0 rfl) ?_
        refine lv_if_ne (tgt := 121) hx hb dX7_point_94 (by decide) (fun u11 => ?_) (fun u11 => ?_)
        · have h := ite_f u11 h
          refine lv_iload hx hb dX7_point_121 (lv_at hl 0 rfl) ?_
          exact b123 _ _ _ M x7 x9 x11 x13 x14 x15 t10 hP hS (lv_sub hl [1, 2, 3, 4, 5, 6, 7] rfl) h
        · have h := ite_t u11 h
          refine lv_lload hx hb dX7_point_97 (lv_at hl 3 rfl) ?_
          refine lv_lload hx hb dX7_point_99 (lv_at hl 4 rfl) ?_
          refine lv_aload_n hx hb dX7_point_101 rfl (lv_at hl 1 rfl) ?_
          refine m_get hC hin hP 8 (by decide) fl_yn rfl (v := .ref (mAd G 8)) rfl dX7_point_102 ?_
          refine lv_iload hx hb dX7_point_105 (lv_at hl 7 rfl) ?_
          obtain ⟨z13, t12, e14, h⟩ := rdL_el h
          refine m_lld hC hP 7 (N := 100) rfl z13 e14 dX7_point_107 ?_
          refine lv_aload_n hx hb dX7_point_108 rfl (lv_at hl 1 rfl) ?_
          refine m_get hC hin hP 9 (by decide) fl_yd rfl (v := .ref (mAd G 9)) rfl dX7_point_109 ?_
          refine lv_iload hx hb dX7_point_112 (lv_at hl 7 rfl) ?_
          obtain ⟨z16, t15, e17, h⟩ := rdL_el h
          refine m_lld hC hP 8 (N := 100) rfl z16 e17 dX7_point_114 ?_
          obtain ⟨t19, e18, h⟩ := cal_el h
          refine m_SI (As := [.long x9, .long x11, .long t12, .long t15]) (rest := []) hC hP hS (c_compare l G F M x9 x11 t12 t15 t19 e18) (va_cwS 4 hts (gWMS wm_48 wm_49 wm_7 wm_40) rfl rfl rfl (by decide +kernel) ⟨Nat.le_of_ble_eq_true rfl, Nat.le_of_ble_eq_true rfl⟩) rfl hl.1 rfl (Nat.le_of_ble_eq_true rfl) dX7_point_115 (fun H locs hP hS => ?_)
          refine lv_goto (tgt := 123) hx hb dX7_point_118 (by decide) ?_
          exact b123 _ _ _ M x7 x9 x11 x13 x14 x15 t19 hP hS (lv_sub hl [1, 2, 3, 4, 5, 6, 7] rfl) h
  have b45 : ∀ (H : Heap) (locs : List Loc) (ls : Array Slot) (M : MS) (x7 : Int64) (x9 : Int64) (s0 : Int64), va_P G.1 vwCl (mW G M) H → va_S (mA G sz) s.heap H locs → lv_has ls 17 [(0, .ref (mO G)), (7, .long x7), (9, .long x9)] → f_point_b45 F M x7 x9 s0 = some M2 → W p l e (headSpec vX7_point ({ frames := 1, cells := 0, slots := 0, locals := 29 })).room s m ([.ref (mO G), .long a1, .long a2, .long a3] : List Value).toArray below meth c H locs 0 0 (mQV below G M2 sz ([.ref (mO G), .long a1, .long a2, .long a3] : List Value).toArray s) (F0 m 45 ls [.long s0]) := by
    intro H locs ls M x7 x9 s0 hP hS hl h
    unfold f_point_b45 at h
    refine lv_lstore (lv' := [(11, .long s0), (0, .ref (mO G)), (7, .long x7), (9, .long x9)]) hx hb dX7_point_45 hl (by decide) rfl (fun ls hl => ?_)
    refine lv_aload_n hx hb dX7_point_47 rfl (lv_at hl 1 rfl) ?_
    refine m_get hC hin hP 5 (by decide) fl_vertices rfl (v := .int (M.1 5)) rfl dX7_point_48 ?_
    refine lv_istore (lv' := [(13, .int (M.1 5)), (11, .long s0), (0, .ref (mO G)), (7, .long x7), (9, .long x9)]) hx hb dX7_point_51 hl (by decide) rfl (fun ls hl => ?_)
    refine lv_iconst (v := 0) hx hb dX7_point_53 (by decide) ?_
    refine lv_istore (lv' := [(14, .int 0), (13, .int (M.1 5)), (11, .long s0), (0, .ref (mO G)), (7, .long x7), (9, .long x9)]) hx hb dX7_point_54 hl (by decide) rfl (fun ls hl => ?_)
    refine lv_aload_n hx hb dX7_point_56 rfl (lv_at hl 3 rfl) ?_
    refine m_get hC hin hP 5 (by decide) fl_vertices rfl (v := .int (M.1 5)) rfl dX7_point_57 ?_
    refine lv_iconst (v := 1) hx hb dX7_point_60 (by decide) ?_
    refine lv_isub hx hb dX7_point_61 ?_
    refine lv_istore (lv' := [(15, .int ((M.1 5) - 1)), (14, .int 0), (13, .int (M.1 5)), (11, .long s0), (0, .ref (mO G)), (7, .long x7), (9, .long x9)]) hx hb dX7_point_62 hl (by decide) rfl (fun ls hl => ?_)
    exact L64 F _ _ _ M x7 x9 s0 (M.1 5) 0 ((M.1 5) - 1) hP hS (lv_sub hl [4, 5, 6, 3, 2, 1, 0] rfl) h
  have b28 : ∀ (H : Heap) (locs : List Loc) (ls : Array Slot) (M : MS) (x5 : Int64) (x7 : Int64) (s0 : Int64), va_P G.1 vwCl (mW G M) H → va_S (mA G sz) s.heap H locs → lv_has ls 17 [(0, .ref (mO G)), (5, .long x5), (7, .long x7)] → f_point_b28 F M x5 x7 s0 = some M2 → W p l e (headSpec vX7_point ({ frames := 1, cells := 0, slots := 0, locals := 29 })).room s m ([.ref (mO G), .long a1, .long a2, .long a3] : List Value).toArray below meth c H locs 0 0 (mQV below G M2 sz ([.ref (mO G), .long a1, .long a2, .long a3] : List Value).toArray s) (F0 m 28 ls [.long s0]) := by
    intro H locs ls M x5 x7 s0 hP hS hl h
    unfold f_point_b28 at h
    refine lv_lstore (lv' := [(9, .long s0), (0, .ref (mO G)), (5, .long x5), (7, .long x7)]) hx hb dX7_point_28 hl (by decide) rfl (fun ls hl => ?_)
    refine lv_lload hx hb dX7_point_30 (lv_at hl 2 rfl) ?_
    refine lv_lconst (v := 0) hx hb dX7_point_32 (by decide) ?_
    refine W.lcmp hx hb dX7_point_33 ?_
    refine lv_if_ge (tgt := 43) hx hb dX7_point_34 (by decide) (fun u1 => ?_) (fun u1 => ?_)
    · have h := ite_t u1 h
      refine lv_lload hx hb dX7_point_43 (lv_at hl 2 rfl) ?_
      exact b45 _ _ _ M x7 s0 x5 hP hS (lv_sub hl [1, 3, 0] rfl) h
    · have h := ite_f u1 h
      refine lv_lload hx hb dX7_point_37 (lv_at hl 2 rfl) ?_
      refine lv_lneg hx hb dX7_point_39 ?_
      refine lv_goto (tgt := 45) hx hb dX7_point_40 (by decide) ?_
      exact b45 _ _ _ M x7 s0 (-x5) hP hS (lv_sub hl [1, 3, 0] rfl) h
  have b13 : ∀ (H : Heap) (locs : List Loc) (ls : Array Slot) (M : MS) (x3 : Int64) (x5 : Int64) (s0 : Int64), va_P G.1 vwCl (mW G M) H → va_S (mA G sz) s.heap H locs → lv_has ls 17 [(0, .ref (mO G)), (3, .long x3), (5, .long x5)] → f_point_b13 F M x3 x5 s0 = some M2 → W p l e (headSpec vX7_point ({ frames := 1, cells := 0, slots := 0, locals := 29 })).room s m ([.ref (mO G), .long a1, .long a2, .long a3] : List Value).toArray below meth c H locs 0 0 (mQV below G M2 sz ([.ref (mO G), .long a1, .long a2, .long a3] : List Value).toArray s) (F0 m 13 ls [.long s0]) := by
    intro H locs ls M x3 x5 s0 hP hS hl h
    unfold f_point_b13 at h
    refine lv_lstore (lv' := [(7, .long s0), (0, .ref (mO G)), (3, .long x3), (5, .long x5)]) hx hb dX7_point_13 hl (by decide) rfl (fun ls hl => ?_)
    refine lv_lload hx hb dX7_point_15 (lv_at hl 3 rfl) ?_
    refine lv_lconst (v := 0) hx hb dX7_point_17 (by decide) ?_
    refine W.lcmp hx hb dX7_point_18 ?_
    refine lv_if_ge (tgt := 27) hx hb dX7_point_19 (by decide) (fun u1 => ?_) (fun u1 => ?_)
    · have h := ite_t u1 h
      refine lv_lload_n hx hb dX7_point_27 rfl (lv_at hl 2 rfl) ?_
      exact b28 _ _ _ M x5 s0 x3 hP hS (lv_sub hl [1, 3, 0] rfl) h
    · have h := ite_f u1 h
      refine lv_lload_n hx hb dX7_point_22 rfl (lv_at hl 2 rfl) ?_
      refine lv_lneg hx hb dX7_point_23 ?_
      refine lv_goto (tgt := 28) hx hb dX7_point_24 (by decide) ?_
      exact b28 _ _ _ M x5 s0 (-x3) hP hS (lv_sub hl [1, 3, 0] rfl) h
  refine m_entry (Nat.le_of_ble_eq_true rfl) (fun ls hl => ?_)
  have hl : lv_has ls 17 [(0, .ref (mO G)), (1, .long a1), (3, .long a2), (5, .long a3)] := hl
  unfold f_point at h
  refine lv_lload hx hb dX7_point_0 (lv_at hl 3 rfl) ?_
  refine lv_lconst (v := 0) hx hb dX7_point_2 (by decide) ?_
  refine W.lcmp hx hb dX7_point_3 ?_
  refine lv_if_ge (tgt := 12) hx hb dX7_point_4 (by decide) (fun u1 => ?_) (fun u1 => ?_)
  · have h := ite_t u1 h
    refine lv_lload_n hx hb dX7_point_12 rfl (lv_at hl 1 rfl) ?_
    exact b13 _ _ _ M a2 a3 a1 hP hS (lv_sub hl [0, 2, 3] rfl) h
  · have h := ite_f u1 h
    refine lv_lload_n hx hb dX7_point_7 rfl (lv_at hl 1 rfl) ?_
    refine lv_lneg hx hb dX7_point_8 ?_
    refine lv_goto (tgt := 13) hx hb dX7_point_9 (by decide) ?_
    exact b13 _ _ _ M a2 a3 (-a1) hP hS (lv_sub hl [0, 2, 3] rfl) h

theorem dX7_laysVertices_0 : decode cX7_laysVertices 0 = .ok (.aload_n 0, 1) := by decide +kernel
theorem dX7_laysVertices_1 : decode cX7_laysVertices 1 = .ok (.iconst 0, 1) := by decide +kernel
theorem dX7_laysVertices_2 : decode cX7_laysVertices 2 = .ok (.putfield 123, 3) := by decide +kernel
theorem dX7_laysVertices_5 : decode cX7_laysVertices 5 = .ok (.iconst 0, 1) := by decide +kernel
theorem dX7_laysVertices_6 : decode cX7_laysVertices 6 = .ok (.istore_n 1, 1) := by decide +kernel
theorem dX7_laysVertices_7 : decode cX7_laysVertices 7 = .ok (.iload_n 1, 1) := by decide +kernel
theorem dX7_laysVertices_8 : decode cX7_laysVertices 8 = .ok (.aload_n 0, 1) := by decide +kernel
theorem dX7_laysVertices_9 : decode cX7_laysVertices 9 = .ok (.getfield 104, 3) := by decide +kernel
theorem dX7_laysVertices_12 : decode cX7_laysVertices 12 = .ok (.if_icmp .ge 137, 3) := by decide +kernel
theorem dX7_laysVertices_15 : decode cX7_laysVertices 15 = .ok (.aload_n 0, 1) := by decide +kernel
theorem dX7_laysVertices_16 : decode cX7_laysVertices 16 = .ok (.aload_n 0, 1) := by decide +kernel
theorem dX7_laysVertices_17 : decode cX7_laysVertices 17 = .ok (.getfield 7, 3) := by decide +kernel
theorem dX7_laysVertices_20 : decode cX7_laysVertices 20 = .ok (.iload_n 1, 1) := by decide +kernel
theorem dX7_laysVertices_21 : decode cX7_laysVertices 21 = .ok (.iaload, 1) := by decide +kernel
theorem dX7_laysVertices_22 : decode cX7_laysVertices 22 = .ok (.i2l, 1) := by decide +kernel
theorem dX7_laysVertices_23 : decode cX7_laysVertices 23 = .ok (.aload_n 0, 1) := by decide +kernel
theorem dX7_laysVertices_24 : decode cX7_laysVertices 24 = .ok (.getfield 13, 3) := by decide +kernel
theorem dX7_laysVertices_27 : decode cX7_laysVertices 27 = .ok (.iload_n 1, 1) := by decide +kernel
theorem dX7_laysVertices_28 : decode cX7_laysVertices 28 = .ok (.iaload, 1) := by decide +kernel
theorem dX7_laysVertices_29 : decode cX7_laysVertices 29 = .ok (.i2l, 1) := by decide +kernel
theorem dX7_laysVertices_30 : decode cX7_laysVertices 30 = .ok (.lconst 1, 1) := by decide +kernel
theorem dX7_laysVertices_31 : decode cX7_laysVertices 31 = .ok (.invokevirtual 134, 3) := by decide +kernel
theorem dX7_laysVertices_34 : decode cX7_laysVertices 34 = .ok (.aload_n 0, 1) := by decide +kernel
theorem dX7_laysVertices_35 : decode cX7_laysVertices 35 = .ok (.aload_n 0, 1) := by decide +kernel
theorem dX7_laysVertices_36 : decode cX7_laysVertices 36 = .ok (.getfield 16, 3) := by decide +kernel
theorem dX7_laysVertices_39 : decode cX7_laysVertices 39 = .ok (.iload_n 1, 1) := by decide +kernel
theorem dX7_laysVertices_40 : decode cX7_laysVertices 40 = .ok (.iaload, 1) := by decide +kernel
theorem dX7_laysVertices_41 : decode cX7_laysVertices 41 = .ok (.i2l, 1) := by decide +kernel
theorem dX7_laysVertices_42 : decode cX7_laysVertices 42 = .ok (.aload_n 0, 1) := by decide +kernel
theorem dX7_laysVertices_43 : decode cX7_laysVertices 43 = .ok (.getfield 19, 3) := by decide +kernel
theorem dX7_laysVertices_46 : decode cX7_laysVertices 46 = .ok (.iload_n 1, 1) := by decide +kernel
theorem dX7_laysVertices_47 : decode cX7_laysVertices 47 = .ok (.iaload, 1) := by decide +kernel
theorem dX7_laysVertices_48 : decode cX7_laysVertices 48 = .ok (.i2l, 1) := by decide +kernel
theorem dX7_laysVertices_49 : decode cX7_laysVertices 49 = .ok (.lconst 1, 1) := by decide +kernel
theorem dX7_laysVertices_50 : decode cX7_laysVertices 50 = .ok (.invokevirtual 134, 3) := by decide +kernel
theorem dX7_laysVertices_53 : decode cX7_laysVertices 53 = .ok (.iconst 0, 1) := by decide +kernel
theorem dX7_laysVertices_54 : decode cX7_laysVertices 54 = .ok (.istore_n 2, 1) := by decide +kernel
theorem dX7_laysVertices_55 : decode cX7_laysVertices 55 = .ok (.iload_n 2, 1) := by decide +kernel
theorem dX7_laysVertices_56 : decode cX7_laysVertices 56 = .ok (.iload_n 1, 1) := by decide +kernel
theorem dX7_laysVertices_57 : decode cX7_laysVertices 57 = .ok (.if_icmp .ge 86, 3) := by decide +kernel
theorem dX7_laysVertices_60 : decode cX7_laysVertices 60 = .ok (.aload_n 0, 1) := by decide +kernel
theorem dX7_laysVertices_61 : decode cX7_laysVertices 61 = .ok (.iload_n 1, 1) := by decide +kernel
theorem dX7_laysVertices_62 : decode cX7_laysVertices 62 = .ok (.iload_n 2, 1) := by decide +kernel
theorem dX7_laysVertices_63 : decode cX7_laysVertices 63 = .ok (.invokevirtual 85, 3) := by decide +kernel
theorem dX7_laysVertices_66 : decode cX7_laysVertices 66 = .ok (.istore_n 3, 1) := by decide +kernel
theorem dX7_laysVertices_67 : decode cX7_laysVertices 67 = .ok (.iload_n 3, 1) := by decide +kernel
theorem dX7_laysVertices_68 : decode cX7_laysVertices 68 = .ok (.ifCond .eq 69, 3) := by decide +kernel
theorem dX7_laysVertices_71 : decode cX7_laysVertices 71 = .ok (.aload_n 0, 1) := by decide +kernel
theorem dX7_laysVertices_72 : decode cX7_laysVertices 72 = .ok (.iload_n 1, 1) := by decide +kernel
theorem dX7_laysVertices_73 : decode cX7_laysVertices 73 = .ok (.iload_n 2, 1) := by decide +kernel
theorem dX7_laysVertices_74 : decode cX7_laysVertices 74 = .ok (.invokevirtual 114, 3) := by decide +kernel
theorem dX7_laysVertices_77 : decode cX7_laysVertices 77 = .ok (.iconst 1, 1) := by decide +kernel
theorem dX7_laysVertices_78 : decode cX7_laysVertices 78 = .ok (.if_icmp .ne 59, 3) := by decide +kernel
theorem dX7_laysVertices_81 : decode cX7_laysVertices 81 = .ok (.aload_n 0, 1) := by decide +kernel
theorem dX7_laysVertices_82 : decode cX7_laysVertices 82 = .ok (.iload_n 1, 1) := by decide +kernel
theorem dX7_laysVertices_83 : decode cX7_laysVertices 83 = .ok (.iload_n 2, 1) := by decide +kernel
theorem dX7_laysVertices_84 : decode cX7_laysVertices 84 = .ok (.iload_n 2, 1) := by decide +kernel
theorem dX7_laysVertices_85 : decode cX7_laysVertices 85 = .ok (.invokevirtual 89, 3) := by decide +kernel
theorem dX7_laysVertices_88 : decode cX7_laysVertices 88 = .ok (.i2l, 1) := by decide +kernel
theorem dX7_laysVertices_89 : decode cX7_laysVertices 89 = .ok (.lstore 4, 2) := by decide +kernel
theorem dX7_laysVertices_91 : decode cX7_laysVertices 91 = .ok (.aload_n 0, 1) := by decide +kernel
theorem dX7_laysVertices_92 : decode cX7_laysVertices 92 = .ok (.aload_n 0, 1) := by decide +kernel
theorem dX7_laysVertices_93 : decode cX7_laysVertices 93 = .ok (.getfield 7, 3) := by decide +kernel
theorem dX7_laysVertices_96 : decode cX7_laysVertices 96 = .ok (.iload_n 1, 1) := by decide +kernel
theorem dX7_laysVertices_97 : decode cX7_laysVertices 97 = .ok (.iaload, 1) := by decide +kernel
theorem dX7_laysVertices_98 : decode cX7_laysVertices 98 = .ok (.i2l, 1) := by decide +kernel
theorem dX7_laysVertices_99 : decode cX7_laysVertices 99 = .ok (.iload_n 3, 1) := by decide +kernel
theorem dX7_laysVertices_100 : decode cX7_laysVertices 100 = .ok (.i2l, 1) := by decide +kernel
theorem dX7_laysVertices_101 : decode cX7_laysVertices 101 = .ok (.lmul, 1) := by decide +kernel
theorem dX7_laysVertices_102 : decode cX7_laysVertices 102 = .ok (.lload 4, 2) := by decide +kernel
theorem dX7_laysVertices_104 : decode cX7_laysVertices 104 = .ok (.aload_n 0, 1) := by decide +kernel
theorem dX7_laysVertices_105 : decode cX7_laysVertices 105 = .ok (.iload_n 1, 1) := by decide +kernel
theorem dX7_laysVertices_106 : decode cX7_laysVertices 106 = .ok (.invokevirtual 74, 3) := by decide +kernel
theorem dX7_laysVertices_109 : decode cX7_laysVertices 109 = .ok (.i2l, 1) := by decide +kernel
theorem dX7_laysVertices_110 : decode cX7_laysVertices 110 = .ok (.lmul, 1) := by decide +kernel
theorem dX7_laysVertices_111 : decode cX7_laysVertices 111 = .ok (.ladd, 1) := by decide +kernel
theorem dX7_laysVertices_112 : decode cX7_laysVertices 112 = .ok (.aload_n 0, 1) := by decide +kernel
theorem dX7_laysVertices_113 : decode cX7_laysVertices 113 = .ok (.getfield 13, 3) := by decide +kernel
theorem dX7_laysVertices_116 : decode cX7_laysVertices 116 = .ok (.iload_n 1, 1) := by decide +kernel
theorem dX7_laysVertices_117 : decode cX7_laysVertices 117 = .ok (.iaload, 1) := by decide +kernel
theorem dX7_laysVertices_118 : decode cX7_laysVertices 118 = .ok (.i2l, 1) := by decide +kernel
theorem dX7_laysVertices_119 : decode cX7_laysVertices 119 = .ok (.iload_n 3, 1) := by decide +kernel
theorem dX7_laysVertices_120 : decode cX7_laysVertices 120 = .ok (.i2l, 1) := by decide +kernel
theorem dX7_laysVertices_121 : decode cX7_laysVertices 121 = .ok (.lmul, 1) := by decide +kernel
theorem dX7_laysVertices_122 : decode cX7_laysVertices 122 = .ok (.lload 4, 2) := by decide +kernel
theorem dX7_laysVertices_124 : decode cX7_laysVertices 124 = .ok (.aload_n 0, 1) := by decide +kernel
theorem dX7_laysVertices_125 : decode cX7_laysVertices 125 = .ok (.iload_n 1, 1) := by decide +kernel
theorem dX7_laysVertices_126 : decode cX7_laysVertices 126 = .ok (.invokevirtual 78, 3) := by decide +kernel
theorem dX7_laysVertices_129 : decode cX7_laysVertices 129 = .ok (.i2l, 1) := by decide +kernel
theorem dX7_laysVertices_130 : decode cX7_laysVertices 130 = .ok (.lmul, 1) := by decide +kernel
theorem dX7_laysVertices_131 : decode cX7_laysVertices 131 = .ok (.ladd, 1) := by decide +kernel
theorem dX7_laysVertices_132 : decode cX7_laysVertices 132 = .ok (.iload_n 3, 1) := by decide +kernel
theorem dX7_laysVertices_133 : decode cX7_laysVertices 133 = .ok (.i2l, 1) := by decide +kernel
theorem dX7_laysVertices_134 : decode cX7_laysVertices 134 = .ok (.invokevirtual 134, 3) := by decide +kernel
theorem dX7_laysVertices_137 : decode cX7_laysVertices 137 = .ok (.iinc 2 1, 3) := by decide +kernel
theorem dX7_laysVertices_140 : decode cX7_laysVertices 140 = .ok (.goto (-85), 3) := by decide +kernel
theorem dX7_laysVertices_143 : decode cX7_laysVertices 143 = .ok (.iinc 1 1, 3) := by decide +kernel
theorem dX7_laysVertices_146 : decode cX7_laysVertices 146 = .ok (.goto (-139), 3) := by decide +kernel
theorem dX7_laysVertices_149 : decode cX7_laysVertices 149 = .ok (.return_, 1) := by decide +kernel
def f_laysVertices_b137 (F : Nat) (k7 : MS → Int32 → Option MS) (k55 : MS → Int32 → Int32 → Option MS) (M : MS) (x1 : Int32) (x2 : Int32) : Option MS := k55 M x1 (x2 + 1)
def f_laysVertices_L55 (F : Nat) (k7 : MS → Int32 → Option MS) : Nat → MS → Int32 → Int32 → Option MS
  | 0, _, _, _ => none
  | n55 + 1, M, x1, x2 => (if x1 ≤ x2 then k7 M (x1 + 1) else cal (f_cross F M x1 x2) fun t3 => (if t3 = 0 then f_laysVertices_b137 F k7 ((f_laysVertices_L55 F k7 n55)) M x1 x2 else cal (f_common F M x1 x2) fun t6 => (if t6 = 1 then cal (f_crossTo F M x1 x2 x2) fun t9 => rdI 13 (M.2.1 1) x1 fun t10 => cal (f_dx F M x1) fun t14 => rdI 13 (M.2.1 2) x1 fun t15 => cal (f_dy F M x1) fun t19 => cal (f_point F M ((t10.toInt64 * t3.toInt64) + (t9.toInt64 * t14.toInt64)) ((t15.toInt64 * t3.toInt64) + (t9.toInt64 * t19.toInt64)) t3.toInt64) fun M21 => f_laysVertices_b137 F k7 ((f_laysVertices_L55 F k7 n55)) M21 x1 x2 else f_laysVertices_b137 F k7 ((f_laysVertices_L55 F k7 n55)) M x1 x2)))
def f_laysVertices_L7 (F : Nat) : Nat → MS → Int32 → Option MS
  | 0, _, _ => none
  | n7 + 1, M, x1 => (if (M.1 0) ≤ x1 then some M else rdI 13 (M.2.1 1) x1 fun t2 => rdI 13 (M.2.1 2) x1 fun t5 => cal (f_point F M t2.toInt64 t5.toInt64 1) fun M9 => rdI 13 (M9.2.1 3) x1 fun t10 => rdI 13 (M9.2.1 4) x1 fun t13 => cal (f_point F M9 t10.toInt64 t13.toInt64 1) fun M17 => f_laysVertices_L55 F ((f_laysVertices_L7 F n7)) F M17 x1 0)
def f_laysVertices (F : Nat) (M : MS) : Option MS := wrF M 5 0 fun M1 => f_laysVertices_L7 F F M1 0
set_option maxRecDepth 100000 in
set_option maxHeartbeats 4000000 in
theorem c_laysVertices (l : Launch) (G : mG) (F : Nat) (M M2 : MS) (h : f_laysVertices F M = some M2) : mMV l yX7_laysVertices vX7_laysVertices ({ frames := 3, cells := 0, slots := 0, locals := 74 }) G [.ref (mO G)] M M2 := by
  refine mBodyV (cc := cX7_laysVertices) (maxL := 6) (ret := none) (by decide) rfl rfl ?_
  intro sz p e s m below meth c hC hP
  have hC0 := hC
  obtain ⟨hx, hb, -, hts, -, -, -, -, -, -⟩ := hC0
  have hS : va_S (mA G sz) s.heap s.heap [] := va_S.rf
  have hin : ∀ w ∈ wsX70, w ∈ vX7_laysVertices := fun w h => List.mem_cons_of_mem _ (List.mem_append_right _ h)
  have fl_vertices := hts _ (List.mem_cons_of_mem _ wm_43)
  have fl_segments := hts _ (List.mem_cons_of_mem _ wm_53)
  have fl_x1 := hts _ (List.mem_cons_of_mem _ wm_10)
  have fl_y1 := hts _ (List.mem_cons_of_mem _ wm_13)
  have fl_x2 := hts _ (List.mem_cons_of_mem _ wm_9)
  have fl_y2 := hts _ (List.mem_cons_of_mem _ wm_12)
  have L7 : ∀ (n7 : Nat) (H : Heap) (locs : List Loc) (ls : Array Slot) (M : MS) (x1 : Int32), va_P G.1 vwCl (mW G M) H → va_S (mA G sz) s.heap H locs → lv_has ls 6 [(0, .ref (mO G)), (1, .int x1)] → f_laysVertices_L7 F n7 M x1 = some M2 → W p l e (headSpec vX7_laysVertices ({ frames := 3, cells := 0, slots := 0, locals := 74 })).room s m ([.ref (mO G)] : List Value).toArray below meth c H locs 0 0 (mQV below G M2 sz ([.ref (mO G)] : List Value).toArray s) (F0 m 7 ls []) := by
    intro n7
    induction n7 with
    | zero =>
      intro H locs ls M x1 hP hS hl h
      rw [f_laysVertices_L7] at h; cases h
    | succ n7 ih7 =>
      have L55 : ∀ (n55 : Nat) (H : Heap) (locs : List Loc) (ls : Array Slot) (M : MS) (x1 : Int32) (x2 : Int32), va_P G.1 vwCl (mW G M) H → va_S (mA G sz) s.heap H locs → lv_has ls 6 [(0, .ref (mO G)), (1, .int x1), (2, .int x2)] → f_laysVertices_L55 F ((f_laysVertices_L7 F n7)) n55 M x1 x2 = some M2 → W p l e (headSpec vX7_laysVertices ({ frames := 3, cells := 0, slots := 0, locals := 74 })).room s m ([.ref (mO G)] : List Value).toArray below meth c H locs 0 0 (mQV below G M2 sz ([.ref (mO G)] : List Value).toArray s) (F0 m 55 ls []) := by
        intro n55
        induction n55 with
        | zero =>
          intro H locs ls M x1 x2 hP hS hl h
          rw [f_laysVertices_L55] at h; cases h
        | succ n55 ih55 =>
          have b137 : ∀ (H : Heap) (locs : List Loc) (ls : Array Slot) (M : MS) (x1 : Int32) (x2 : Int32), va_P G.1 vwCl (mW G M) H → va_S (mA G sz) s.heap H locs → lv_has ls 6 [(0, .ref (mO G)), (1, .int x1), (2, .int x2)] → f_laysVertices_b137 F ((f_laysVertices_L7 F n7)) ((f_laysVertices_L55 F ((f_laysVertices_L7 F n7)) n55)) M x1 x2 = some M2 → W p l e (headSpec vX7_laysVertices ({ frames := 3, cells := 0, slots := 0, locals := 74 })).room s m ([.ref (mO G)] : List Value).toArray below meth c H locs 0 0 (mQV below G M2 sz ([.ref (mO G)] : List Value).toArray s) (F0 m 137 ls []) := by
            intro H locs ls M x1 x2 hP hS hl h
            unfold f_laysVertices_b137 at h
            refine lv_iinc (v := x2 + 1) (lv' := [(2, .int (x2 + 1)), (0, .ref (mO G)), (1, .int x1)]) hx hb dX7_laysVertices_137 hl (k := 2) rfl rfl (by decide) rfl (fun ls hl => ?_)
            refine lv_goto (tgt := 55) hx hb dX7_laysVertices_140 (by decide) ?_
            exact ih55 _ _ _ M x1 (x2 + 1) hP hS (lv_sub hl [1, 2, 0] rfl) h
          intro H locs ls M x1 x2 hP hS hl h
          rw [f_laysVertices_L55] at h
          refine lv_iload_n hx hb dX7_laysVertices_55 rfl (lv_at hl 2 rfl) ?_
          refine lv_iload_n hx hb dX7_laysVertices_56 rfl (lv_at hl 1 rfl) ?_
          refine lv_icmp_ge (tgt := 143) hx hb dX7_laysVertices_57 (by decide) (fun u1 => ?_) (fun u1 => ?_)
          · have h := ite_t u1 h
            refine lv_iinc (v := x1 + 1) (lv' := [(1, .int (x1 + 1)), (0, .ref (mO G)), (2, .int x2)]) hx hb dX7_laysVertices_143 hl (k := 1) rfl rfl (by decide) rfl (fun ls hl => ?_)
            refine lv_goto (tgt := 7) hx hb dX7_laysVertices_146 (by decide) ?_
            exact ih7 _ _ _ M (x1 + 1) hP hS (lv_sub hl [1, 0] rfl) h
          · have h := ite_f u1 h
            refine lv_aload_n hx hb dX7_laysVertices_60 rfl (lv_at hl 0 rfl) ?_
            refine lv_iload_n hx hb dX7_laysVertices_61 rfl (lv_at hl 1 rfl) ?_
            refine lv_iload_n hx hb dX7_laysVertices_62 rfl (lv_at hl 2 rfl) ?_
            obtain ⟨t3, e2, h⟩ := cal_el h
            refine m_VI (As := [.int x1, .int x2]) (rest := []) hC hP hS (c_cross l G F M x1 x2 t3 e2) (cwV 2 hts (gWM wm_28 wm_29 wm_30 wm_7 wm_14) rfl rfl rfl (by decide +kernel) ⟨Nat.le_of_ble_eq_true rfl, Nat.le_of_ble_eq_true rfl⟩) rfl hl.1 rfl (Nat.le_of_ble_eq_true rfl) dX7_laysVertices_63 (fun H locs hP hS => ?_)
            refine lv_istore_n (lv' := [(3, .int t3), (0, .ref (mO G)), (1, .int x1), (2, .int x2)]) hx hb dX7_laysVertices_66 rfl hl (by decide) rfl (fun ls hl => ?_)
            refine lv_iload_n hx hb dX7_laysVertices_67 rfl (lv_at hl 0 rfl) ?_
            refine lv_if_eq (tgt := 137) hx hb dX7_laysVertices_68 (by decide) (fun u4 => ?_) (fun u4 => ?_)
            · have h := ite_t u4 h
              exact b137 _ _ _ M x1 x2 hP hS (lv_sub hl [1, 2, 3] rfl) h
            · have h := ite_f u4 h
              refine lv_aload_n hx hb dX7_laysVertices_71 rfl (lv_at hl 1 rfl) ?_
              refine lv_iload_n hx hb dX7_laysVertices_72 rfl (lv_at hl 2 rfl) ?_
              refine lv_iload_n hx hb dX7_laysVertices_73 rfl (lv_at hl 3 rfl) ?_
              obtain ⟨t6, e5, h⟩ := cal_el h
              refine m_VI (As := [.int x1, .int x2]) (rest := []) hC hP hS (c_common l G F M x1 x2 t6 e5) (cwV 2 hts (gWM wm_57 wm_58 wm_59 wm_7 wm_27) rfl rfl rfl (by decide +kernel) ⟨Nat.le_of_ble_eq_true rfl, Nat.le_of_ble_eq_true rfl⟩) rfl hl.1 rfl (Nat.le_of_ble_eq_true rfl) dX7_laysVertices_74 (fun H locs hP hS => ?_)
              refine lv_iconst (v := 1) hx hb dX7_laysVertices_77 (by decide) ?_
              refine lv_icmp_ne (tgt := 137) hx hb dX7_laysVertices_78 (by decide) (fun u7 => ?_) (fun u7 => ?_)
              · have h := ite_f u7 h
                exact b137 _ _ _ M x1 x2 hP hS (lv_sub hl [1, 2, 3] rfl) h
              · have h := ite_t u7 h
                refine lv_aload_n hx hb dX7_laysVertices_81 rfl (lv_at hl 1 rfl) ?_
                refine lv_iload_n hx hb dX7_laysVertices_82 rfl (lv_at hl 2 rfl) ?_
                refine lv_iload_n hx hb dX7_laysVertices_83 rfl (lv_at hl 3 rfl) ?_
                refine lv_iload_n hx hb dX7_laysVertices_84 rfl (lv_at hl 3 rfl) ?_
                obtain ⟨t9, e8, h⟩ := cal_el h
                refine m_VI (As := [.int x1, .int x2, .int x2]) (rest := []) hC hP hS (c_crossTo l G F M x1 x2 x2 t9 e8) (cwV 3 hts (gWM wm_31 wm_32 wm_33 wm_7 wm_21) rfl rfl rfl (by decide +kernel) ⟨Nat.le_of_ble_eq_true rfl, Nat.le_of_ble_eq_true rfl⟩) rfl hl.1 rfl (Nat.le_of_ble_eq_true rfl) dX7_laysVertices_85 (fun H locs hP hS => ?_)
                refine lv_i2l (v := t9.toInt64) hx hb dX7_laysVertices_88 rfl ?_
                refine lv_lstore (lv' := [(4, .long t9.toInt64), (3, .int t3), (0, .ref (mO G)), (1, .int x1), (2, .int x2)]) hx hb dX7_laysVertices_89 hl (by decide) rfl (fun ls hl => ?_)
                refine lv_aload_n hx hb dX7_laysVertices_91 rfl (lv_at hl 2 rfl) ?_
                refine lv_aload_n hx hb dX7_laysVertices_92 rfl (lv_at hl 2 rfl) ?_
                refine m_get hC hin hP 1 (by decide) fl_x1 rfl (v := .ref (mAd G 1)) rfl dX7_laysVertices_93 ?_
                refine lv_iload_n hx hb dX7_laysVertices_96 rfl (lv_at hl 3 rfl) ?_
                obtain ⟨z11, t10, e12, h⟩ := rdI_el h
                refine m_ild hC hP 1 (N := 13) rfl z11 e12 dX7_laysVertices_97 ?_
                refine lv_i2l (v := t10.toInt64) hx hb dX7_laysVertices_98 rfl ?_
                refine lv_iload_n hx hb dX7_laysVertices_99 rfl (lv_at hl 1 rfl) ?_
                refine lv_i2l (v := t3.toInt64) hx hb dX7_laysVertices_100 rfl ?_
                refine lv_lmul hx hb dX7_laysVertices_101 ?_
                refine lv_lload hx hb dX7_laysVertices_102 (lv_at hl 0 rfl) ?_
                refine lv_aload_n hx hb dX7_laysVertices_104 rfl (lv_at hl 2 rfl) ?_
                refine lv_iload_n hx hb dX7_laysVertices_105 rfl (lv_at hl 3 rfl) ?_
                obtain ⟨t14, e13, h⟩ := cal_el h
                refine m_VI (As := [.int x1]) (rest := [.long t9.toInt64, .long (t10.toInt64 * t3.toInt64), .ref (mO G)]) hC hP hS (c_dx l G F M x1 t14 e13) (cwV 1 hts (gWM wm_15 wm_16 wm_17 wm_7 wm_8) rfl rfl rfl (by decide +kernel) ⟨Nat.le_of_ble_eq_true rfl, Nat.le_of_ble_eq_true rfl⟩) rfl hl.1 rfl (Nat.le_of_ble_eq_true rfl) dX7_laysVertices_106 (fun H locs hP hS => ?_)
                refine lv_i2l (v := t14.toInt64) hx hb dX7_laysVertices_109 rfl ?_
                refine lv_lmul hx hb dX7_laysVertices_110 ?_
                refine lv_ladd hx hb dX7_laysVertices_111 ?_
                refine lv_aload_n hx hb dX7_laysVertices_112 rfl (lv_at hl 2 rfl) ?_
                refine m_get hC hin hP 2 (by decide) fl_y1 rfl (v := .ref (mAd G 2)) rfl dX7_laysVertices_113 ?_
                refine lv_iload_n hx hb dX7_laysVertices_116 rfl (lv_at hl 3 rfl) ?_
                obtain ⟨z16, t15, e17, h⟩ := rdI_el h
                refine m_ild hC hP 2 (N := 13) rfl z16 e17 dX7_laysVertices_117 ?_
                refine lv_i2l (v := t15.toInt64) hx hb dX7_laysVertices_118 rfl ?_
                refine lv_iload_n hx hb dX7_laysVertices_119 rfl (lv_at hl 1 rfl) ?_
                refine lv_i2l (v := t3.toInt64) hx hb dX7_laysVertices_120 rfl ?_
                refine lv_lmul hx hb dX7_laysVertices_121 ?_
                refine lv_lload hx hb dX7_laysVertices_122 (lv_at hl 0 rfl) ?_
                refine lv_aload_n hx hb dX7_laysVertices_124 rfl (lv_at hl 2 rfl) ?_
                refine lv_iload_n hx hb dX7_laysVertices_125 rfl (lv_at hl 3 rfl) ?_
                obtain ⟨t19, e18, h⟩ := cal_el h
                refine m_VI (As := [.int x1]) (rest := [.long t9.toInt64, .long (t15.toInt64 * t3.toInt64), .long ((t10.toInt64 * t3.toInt64) + (t9.toInt64 * t14.toInt64)), .ref (mO G)]) hC hP hS (c_dy l G F M x1 t19 e18) (cwV 1 hts (gWM wm_18 wm_19 wm_20 wm_7 wm_11) rfl rfl rfl (by decide +kernel) ⟨Nat.le_of_ble_eq_true rfl, Nat.le_of_ble_eq_true rfl⟩) rfl hl.1 rfl (Nat.le_of_ble_eq_true rfl) dX7_laysVertices_126 (fun H locs hP hS => ?_)
                refine lv_i2l (v := t19.toInt64) hx hb dX7_laysVertices_129 rfl ?_
                refine lv_lmul hx hb dX7_laysVertices_130 ?_
                refine lv_ladd hx hb dX7_laysVertices_131 ?_
                refine lv_iload_n hx hb dX7_laysVertices_132 rfl (lv_at hl 1 rfl) ?_
                refine lv_i2l (v := t3.toInt64) hx hb dX7_laysVertices_133 rfl ?_
                obtain ⟨M21, e20, h⟩ := cal_el h
                refine m_VV (As := [.long ((t10.toInt64 * t3.toInt64) + (t9.toInt64 * t14.toInt64)), .long ((t15.toInt64 * t3.toInt64) + (t9.toInt64 * t19.toInt64)), .long t3.toInt64]) (rest := []) hC hP hS (c_point l G F M M21 ((t10.toInt64 * t3.toInt64) + (t9.toInt64 * t14.toInt64)) ((t15.toInt64 * t3.toInt64) + (t9.toInt64 * t19.toInt64)) t3.toInt64 e20) (cwV 3 hts (gWM wm_54 wm_55 wm_56 wm_7 wm_42) rfl rfl rfl (by decide +kernel) ⟨Nat.le_of_ble_eq_true rfl, Nat.le_of_ble_eq_true rfl⟩) rfl hl.1 rfl (Nat.le_of_ble_eq_true rfl) dX7_laysVertices_134 (fun H locs hP hS => ?_)
                exact b137 _ _ _ M21 x1 x2 hP hS (lv_sub hl [2, 3, 4] rfl) h
      intro H locs ls M x1 hP hS hl h
      rw [f_laysVertices_L7] at h
      refine lv_iload_n hx hb dX7_laysVertices_7 rfl (lv_at hl 1 rfl) ?_
      refine lv_aload_n hx hb dX7_laysVertices_8 rfl (lv_at hl 0 rfl) ?_
      refine m_get hC hin hP 0 (by decide) fl_segments rfl (v := .int (M.1 0)) rfl dX7_laysVertices_9 ?_
      refine lv_icmp_ge (tgt := 149) hx hb dX7_laysVertices_12 (by decide) (fun u1 => ?_) (fun u1 => ?_)
      · have h := ite_t u1 h
        cases h
        exact m_vret hC hP hS dX7_laysVertices_149
      · have h := ite_f u1 h
        refine lv_aload_n hx hb dX7_laysVertices_15 rfl (lv_at hl 0 rfl) ?_
        refine lv_aload_n hx hb dX7_laysVertices_16 rfl (lv_at hl 0 rfl) ?_
        refine m_get hC hin hP 1 (by decide) fl_x1 rfl (v := .ref (mAd G 1)) rfl dX7_laysVertices_17 ?_
        refine lv_iload_n hx hb dX7_laysVertices_20 rfl (lv_at hl 1 rfl) ?_
        obtain ⟨z3, t2, e4, h⟩ := rdI_el h
        refine m_ild hC hP 1 (N := 13) rfl z3 e4 dX7_laysVertices_21 ?_
        refine lv_i2l (v := t2.toInt64) hx hb dX7_laysVertices_22 rfl ?_
        refine lv_aload_n hx hb dX7_laysVertices_23 rfl (lv_at hl 0 rfl) ?_
        refine m_get hC hin hP 2 (by decide) fl_y1 rfl (v := .ref (mAd G 2)) rfl dX7_laysVertices_24 ?_
        refine lv_iload_n hx hb dX7_laysVertices_27 rfl (lv_at hl 1 rfl) ?_
        obtain ⟨z6, t5, e7, h⟩ := rdI_el h
        refine m_ild hC hP 2 (N := 13) rfl z6 e7 dX7_laysVertices_28 ?_
        refine lv_i2l (v := t5.toInt64) hx hb dX7_laysVertices_29 rfl ?_
        refine lv_lconst (v := 1) hx hb dX7_laysVertices_30 (by decide) ?_
        obtain ⟨M9, e8, h⟩ := cal_el h
        refine m_VV (As := [.long t2.toInt64, .long t5.toInt64, .long 1]) (rest := []) hC hP hS (c_point l G F M M9 t2.toInt64 t5.toInt64 1 e8) (cwV 3 hts (gWM wm_54 wm_55 wm_56 wm_7 wm_42) rfl rfl rfl (by decide +kernel) ⟨Nat.le_of_ble_eq_true rfl, Nat.le_of_ble_eq_true rfl⟩) rfl hl.1 rfl (Nat.le_of_ble_eq_true rfl) dX7_laysVertices_31 (fun H locs hP hS => ?_)
        refine lv_aload_n hx hb dX7_laysVertices_34 rfl (lv_at hl 0 rfl) ?_
        refine lv_aload_n hx hb dX7_laysVertices_35 rfl (lv_at hl 0 rfl) ?_
        refine m_get hC hin hP 3 (by decide) fl_x2 rfl (v := .ref (mAd G 3)) rfl dX7_laysVertices_36 ?_
        refine lv_iload_n hx hb dX7_laysVertices_39 rfl (lv_at hl 1 rfl) ?_
        obtain ⟨z11, t10, e12, h⟩ := rdI_el h
        refine m_ild hC hP 3 (N := 13) rfl z11 e12 dX7_laysVertices_40 ?_
        refine lv_i2l (v := t10.toInt64) hx hb dX7_laysVertices_41 rfl ?_
        refine lv_aload_n hx hb dX7_laysVertices_42 rfl (lv_at hl 0 rfl) ?_
        refine m_get hC hin hP 4 (by decide) fl_y2 rfl (v := .ref (mAd G 4)) rfl dX7_laysVertices_43 ?_
        refine lv_iload_n hx hb dX7_laysVertices_46 rfl (lv_at hl 1 rfl) ?_
        obtain ⟨z14, t13, e15, h⟩ := rdI_el h
        refine m_ild hC hP 4 (N := 13) rfl z14 e15 dX7_laysVertices_47 ?_
        refine lv_i2l (v := t13.toInt64) hx hb dX7_laysVertices_48 rfl ?_
        refine lv_lconst (v := 1) hx hb dX7_laysVertices_49 (by decide) ?_
        obtain ⟨M17, e16, h⟩ := cal_el h
        refine m_VV (As := [.long t10.toInt64, .long t13.toInt64, .long 1]) (rest := []) hC hP hS (c_point l G F M9 M17 t10.toInt64 t13.toInt64 1 e16) (cwV 3 hts (gWM wm_54 wm_55 wm_56 wm_7 wm_42) rfl rfl rfl (by decide +kernel) ⟨Nat.le_of_ble_eq_true rfl, Nat.le_of_ble_eq_true rfl⟩) rfl hl.1 rfl (Nat.le_of_ble_eq_true rfl) dX7_laysVertices_50 (fun H locs hP hS => ?_)
        refine lv_iconst (v := 0) hx hb dX7_laysVertices_53 (by decide) ?_
        refine lv_istore_n (lv' := [(2, .int 0), (0, .ref (mO G)), (1, .int x1)]) hx hb dX7_laysVertices_54 rfl hl (by decide) rfl (fun ls hl => ?_)
        exact L55 F _ _ _ M17 x1 0 hP hS (lv_sub hl [1, 2, 0] rfl) h
  refine m_entry (Nat.le_of_ble_eq_true rfl) (fun ls hl => ?_)
  have hl : lv_has ls 6 [(0, .ref (mO G))] := hl
  unfold f_laysVertices at h
  refine lv_aload_n hx hb dX7_laysVertices_0 rfl (lv_at hl 0 rfl) ?_
  refine lv_iconst (v := 0) hx hb dX7_laysVertices_1 (by decide) ?_
  obtain ⟨M1, e2, h⟩ := wrF_el h
  refine m_put hC hin hP hS 5 (by decide) fl_vertices rfl rfl (by decide +kernel) (mset_5 G _ _) e2 dX7_laysVertices_2 (fun H locs hP hS => ?_)
  refine lv_iconst (v := 0) hx hb dX7_laysVertices_5 (by decide) ?_
  refine lv_istore_n (lv' := [(1, .int 0), (0, .ref (mO G))]) hx hb dX7_laysVertices_6 rfl hl (by decide) rfl (fun ls hl => ?_)
  exact L7 F _ _ _ M1 0 hP hS (lv_sub hl [1, 0] rfl) h

theorem dX7_isOn_0 : decode cX7_isOn 0 = .ok (.aload_n 0, 1) := by decide +kernel
theorem dX7_isOn_1 : decode cX7_isOn 1 = .ok (.iload_n 2, 1) := by decide +kernel
theorem dX7_isOn_2 : decode cX7_isOn 2 = .ok (.invokevirtual 74, 3) := by decide +kernel
theorem dX7_isOn_5 : decode cX7_isOn 5 = .ok (.i2l, 1) := by decide +kernel
theorem dX7_isOn_6 : decode cX7_isOn 6 = .ok (.aload_n 0, 1) := by decide +kernel
theorem dX7_isOn_7 : decode cX7_isOn 7 = .ok (.getfield 29, 3) := by decide +kernel
theorem dX7_isOn_10 : decode cX7_isOn 10 = .ok (.iload_n 1, 1) := by decide +kernel
theorem dX7_isOn_11 : decode cX7_isOn 11 = .ok (.laload, 1) := by decide +kernel
theorem dX7_isOn_12 : decode cX7_isOn 12 = .ok (.aload_n 0, 1) := by decide +kernel
theorem dX7_isOn_13 : decode cX7_isOn 13 = .ok (.getfield 13, 3) := by decide +kernel
theorem dX7_isOn_16 : decode cX7_isOn 16 = .ok (.iload_n 2, 1) := by decide +kernel
theorem dX7_isOn_17 : decode cX7_isOn 17 = .ok (.iaload, 1) := by decide +kernel
theorem dX7_isOn_18 : decode cX7_isOn 18 = .ok (.i2l, 1) := by decide +kernel
theorem dX7_isOn_19 : decode cX7_isOn 19 = .ok (.aload_n 0, 1) := by decide +kernel
theorem dX7_isOn_20 : decode cX7_isOn 20 = .ok (.getfield 32, 3) := by decide +kernel
theorem dX7_isOn_23 : decode cX7_isOn 23 = .ok (.iload_n 1, 1) := by decide +kernel
theorem dX7_isOn_24 : decode cX7_isOn 24 = .ok (.laload, 1) := by decide +kernel
theorem dX7_isOn_25 : decode cX7_isOn 25 = .ok (.lmul, 1) := by decide +kernel
theorem dX7_isOn_26 : decode cX7_isOn 26 = .ok (.lsub, 1) := by decide +kernel
theorem dX7_isOn_27 : decode cX7_isOn 27 = .ok (.lmul, 1) := by decide +kernel
theorem dX7_isOn_28 : decode cX7_isOn 28 = .ok (.aload_n 0, 1) := by decide +kernel
theorem dX7_isOn_29 : decode cX7_isOn 29 = .ok (.getfield 26, 3) := by decide +kernel
theorem dX7_isOn_32 : decode cX7_isOn 32 = .ok (.iload_n 1, 1) := by decide +kernel
theorem dX7_isOn_33 : decode cX7_isOn 33 = .ok (.laload, 1) := by decide +kernel
theorem dX7_isOn_34 : decode cX7_isOn 34 = .ok (.lmul, 1) := by decide +kernel
theorem dX7_isOn_35 : decode cX7_isOn 35 = .ok (.lstore_n 3, 1) := by decide +kernel
theorem dX7_isOn_36 : decode cX7_isOn 36 = .ok (.aload_n 0, 1) := by decide +kernel
theorem dX7_isOn_37 : decode cX7_isOn 37 = .ok (.iload_n 2, 1) := by decide +kernel
theorem dX7_isOn_38 : decode cX7_isOn 38 = .ok (.invokevirtual 78, 3) := by decide +kernel
theorem dX7_isOn_41 : decode cX7_isOn 41 = .ok (.i2l, 1) := by decide +kernel
theorem dX7_isOn_42 : decode cX7_isOn 42 = .ok (.aload_n 0, 1) := by decide +kernel
theorem dX7_isOn_43 : decode cX7_isOn 43 = .ok (.getfield 22, 3) := by decide +kernel
theorem dX7_isOn_46 : decode cX7_isOn 46 = .ok (.iload_n 1, 1) := by decide +kernel
theorem dX7_isOn_47 : decode cX7_isOn 47 = .ok (.laload, 1) := by decide +kernel
theorem dX7_isOn_48 : decode cX7_isOn 48 = .ok (.aload_n 0, 1) := by decide +kernel
theorem dX7_isOn_49 : decode cX7_isOn 49 = .ok (.getfield 7, 3) := by decide +kernel
theorem dX7_isOn_52 : decode cX7_isOn 52 = .ok (.iload_n 2, 1) := by decide +kernel
theorem dX7_isOn_53 : decode cX7_isOn 53 = .ok (.iaload, 1) := by decide +kernel
theorem dX7_isOn_54 : decode cX7_isOn 54 = .ok (.i2l, 1) := by decide +kernel
theorem dX7_isOn_55 : decode cX7_isOn 55 = .ok (.aload_n 0, 1) := by decide +kernel
theorem dX7_isOn_56 : decode cX7_isOn 56 = .ok (.getfield 26, 3) := by decide +kernel
theorem dX7_isOn_59 : decode cX7_isOn 59 = .ok (.iload_n 1, 1) := by decide +kernel
theorem dX7_isOn_60 : decode cX7_isOn 60 = .ok (.laload, 1) := by decide +kernel
theorem dX7_isOn_61 : decode cX7_isOn 61 = .ok (.lmul, 1) := by decide +kernel
theorem dX7_isOn_62 : decode cX7_isOn 62 = .ok (.lsub, 1) := by decide +kernel
theorem dX7_isOn_63 : decode cX7_isOn 63 = .ok (.lmul, 1) := by decide +kernel
theorem dX7_isOn_64 : decode cX7_isOn 64 = .ok (.aload_n 0, 1) := by decide +kernel
theorem dX7_isOn_65 : decode cX7_isOn 65 = .ok (.getfield 32, 3) := by decide +kernel
theorem dX7_isOn_68 : decode cX7_isOn 68 = .ok (.iload_n 1, 1) := by decide +kernel
theorem dX7_isOn_69 : decode cX7_isOn 69 = .ok (.laload, 1) := by decide +kernel
theorem dX7_isOn_70 : decode cX7_isOn 70 = .ok (.lmul, 1) := by decide +kernel
theorem dX7_isOn_71 : decode cX7_isOn 71 = .ok (.lstore 5, 2) := by decide +kernel
theorem dX7_isOn_73 : decode cX7_isOn 73 = .ok (.aload_n 0, 1) := by decide +kernel
theorem dX7_isOn_74 : decode cX7_isOn 74 = .ok (.getfield 13, 3) := by decide +kernel
theorem dX7_isOn_77 : decode cX7_isOn 77 = .ok (.iload_n 2, 1) := by decide +kernel
theorem dX7_isOn_78 : decode cX7_isOn 78 = .ok (.iaload, 1) := by decide +kernel
theorem dX7_isOn_79 : decode cX7_isOn 79 = .ok (.aload_n 0, 1) := by decide +kernel
theorem dX7_isOn_80 : decode cX7_isOn 80 = .ok (.getfield 19, 3) := by decide +kernel
theorem dX7_isOn_83 : decode cX7_isOn 83 = .ok (.iload_n 2, 1) := by decide +kernel
theorem dX7_isOn_84 : decode cX7_isOn 84 = .ok (.iaload, 1) := by decide +kernel
theorem dX7_isOn_85 : decode cX7_isOn 85 = .ok (.if_icmp .ge 12, 3) := by decide +kernel
theorem dX7_isOn_88 : decode cX7_isOn 88 = .ok (.aload_n 0, 1) := by decide +kernel
theorem dX7_isOn_89 : decode cX7_isOn 89 = .ok (.getfield 13, 3) := by decide +kernel
theorem dX7_isOn_92 : decode cX7_isOn 92 = .ok (.iload_n 2, 1) := by decide +kernel
theorem dX7_isOn_93 : decode cX7_isOn 93 = .ok (.iaload, 1) := by decide +kernel
theorem dX7_isOn_94 : decode cX7_isOn 94 = .ok (.goto 9, 3) := by decide +kernel
theorem dX7_isOn_97 : decode cX7_isOn 97 = .ok (.aload_n 0, 1) := by decide +kernel
theorem dX7_isOn_98 : decode cX7_isOn 98 = .ok (.getfield 19, 3) := by decide +kernel
theorem dX7_isOn_101 : decode cX7_isOn 101 = .ok (.iload_n 2, 1) := by decide +kernel
theorem dX7_isOn_102 : decode cX7_isOn 102 = .ok (.iaload, 1) := by decide +kernel
theorem dX7_isOn_103 : decode cX7_isOn 103 = .ok (.istore 7, 2) := by decide +kernel
theorem dX7_isOn_105 : decode cX7_isOn 105 = .ok (.aload_n 0, 1) := by decide +kernel
theorem dX7_isOn_106 : decode cX7_isOn 106 = .ok (.getfield 13, 3) := by decide +kernel
theorem dX7_isOn_109 : decode cX7_isOn 109 = .ok (.iload_n 2, 1) := by decide +kernel
theorem dX7_isOn_110 : decode cX7_isOn 110 = .ok (.iaload, 1) := by decide +kernel
theorem dX7_isOn_111 : decode cX7_isOn 111 = .ok (.aload_n 0, 1) := by decide +kernel
theorem dX7_isOn_112 : decode cX7_isOn 112 = .ok (.getfield 19, 3) := by decide +kernel
theorem dX7_isOn_115 : decode cX7_isOn 115 = .ok (.iload_n 2, 1) := by decide +kernel
theorem dX7_isOn_116 : decode cX7_isOn 116 = .ok (.iaload, 1) := by decide +kernel
theorem dX7_isOn_117 : decode cX7_isOn 117 = .ok (.iadd, 1) := by decide +kernel
theorem dX7_isOn_118 : decode cX7_isOn 118 = .ok (.iload 7, 2) := by decide +kernel
theorem dX7_isOn_120 : decode cX7_isOn 120 = .ok (.isub, 1) := by decide +kernel
theorem dX7_isOn_121 : decode cX7_isOn 121 = .ok (.istore 8, 2) := by decide +kernel
theorem dX7_isOn_123 : decode cX7_isOn 123 = .ok (.aload_n 0, 1) := by decide +kernel
theorem dX7_isOn_124 : decode cX7_isOn 124 = .ok (.getfield 22, 3) := by decide +kernel
theorem dX7_isOn_127 : decode cX7_isOn 127 = .ok (.iload_n 1, 1) := by decide +kernel
theorem dX7_isOn_128 : decode cX7_isOn 128 = .ok (.laload, 1) := by decide +kernel
theorem dX7_isOn_129 : decode cX7_isOn 129 = .ok (.aload_n 0, 1) := by decide +kernel
theorem dX7_isOn_130 : decode cX7_isOn 130 = .ok (.getfield 26, 3) := by decide +kernel
theorem dX7_isOn_133 : decode cX7_isOn 133 = .ok (.iload_n 1, 1) := by decide +kernel
theorem dX7_isOn_134 : decode cX7_isOn 134 = .ok (.laload, 1) := by decide +kernel
theorem dX7_isOn_135 : decode cX7_isOn 135 = .ok (.aload_n 0, 1) := by decide +kernel
theorem dX7_isOn_136 : decode cX7_isOn 136 = .ok (.getfield 7, 3) := by decide +kernel
theorem dX7_isOn_139 : decode cX7_isOn 139 = .ok (.iload_n 2, 1) := by decide +kernel
theorem dX7_isOn_140 : decode cX7_isOn 140 = .ok (.iaload, 1) := by decide +kernel
theorem dX7_isOn_141 : decode cX7_isOn 141 = .ok (.i2l, 1) := by decide +kernel
theorem dX7_isOn_142 : decode cX7_isOn 142 = .ok (.lconst 1, 1) := by decide +kernel
theorem dX7_isOn_143 : decode cX7_isOn 143 = .ok (.invokestatic 126, 3) := by decide +kernel
theorem dX7_isOn_146 : decode cX7_isOn 146 = .ok (.ifCond .lt 33, 3) := by decide +kernel
theorem dX7_isOn_149 : decode cX7_isOn 149 = .ok (.aload_n 0, 1) := by decide +kernel
theorem dX7_isOn_150 : decode cX7_isOn 150 = .ok (.getfield 22, 3) := by decide +kernel
theorem dX7_isOn_153 : decode cX7_isOn 153 = .ok (.iload_n 1, 1) := by decide +kernel
theorem dX7_isOn_154 : decode cX7_isOn 154 = .ok (.laload, 1) := by decide +kernel
theorem dX7_isOn_155 : decode cX7_isOn 155 = .ok (.aload_n 0, 1) := by decide +kernel
theorem dX7_isOn_156 : decode cX7_isOn 156 = .ok (.getfield 26, 3) := by decide +kernel
theorem dX7_isOn_159 : decode cX7_isOn 159 = .ok (.iload_n 1, 1) := by decide +kernel
theorem dX7_isOn_160 : decode cX7_isOn 160 = .ok (.laload, 1) := by decide +kernel
theorem dX7_isOn_161 : decode cX7_isOn 161 = .ok (.aload_n 0, 1) := by decide +kernel
theorem dX7_isOn_162 : decode cX7_isOn 162 = .ok (.getfield 16, 3) := by decide +kernel
theorem dX7_isOn_165 : decode cX7_isOn 165 = .ok (.iload_n 2, 1) := by decide +kernel
theorem dX7_isOn_166 : decode cX7_isOn 166 = .ok (.iaload, 1) := by decide +kernel
theorem dX7_isOn_167 : decode cX7_isOn 167 = .ok (.i2l, 1) := by decide +kernel
theorem dX7_isOn_168 : decode cX7_isOn 168 = .ok (.lconst 1, 1) := by decide +kernel
theorem dX7_isOn_169 : decode cX7_isOn 169 = .ok (.invokestatic 126, 3) := by decide +kernel
theorem dX7_isOn_172 : decode cX7_isOn 172 = .ok (.ifCond .gt 7, 3) := by decide +kernel
theorem dX7_isOn_175 : decode cX7_isOn 175 = .ok (.iconst 1, 1) := by decide +kernel
theorem dX7_isOn_176 : decode cX7_isOn 176 = .ok (.goto 4, 3) := by decide +kernel
theorem dX7_isOn_179 : decode cX7_isOn 179 = .ok (.iconst 0, 1) := by decide +kernel
theorem dX7_isOn_180 : decode cX7_isOn 180 = .ok (.istore 9, 2) := by decide +kernel
theorem dX7_isOn_182 : decode cX7_isOn 182 = .ok (.aload_n 0, 1) := by decide +kernel
theorem dX7_isOn_183 : decode cX7_isOn 183 = .ok (.getfield 29, 3) := by decide +kernel
theorem dX7_isOn_186 : decode cX7_isOn 186 = .ok (.iload_n 1, 1) := by decide +kernel
theorem dX7_isOn_187 : decode cX7_isOn 187 = .ok (.laload, 1) := by decide +kernel
theorem dX7_isOn_188 : decode cX7_isOn 188 = .ok (.aload_n 0, 1) := by decide +kernel
theorem dX7_isOn_189 : decode cX7_isOn 189 = .ok (.getfield 32, 3) := by decide +kernel
theorem dX7_isOn_192 : decode cX7_isOn 192 = .ok (.iload_n 1, 1) := by decide +kernel
theorem dX7_isOn_193 : decode cX7_isOn 193 = .ok (.laload, 1) := by decide +kernel
theorem dX7_isOn_194 : decode cX7_isOn 194 = .ok (.iload 7, 2) := by decide +kernel
theorem dX7_isOn_196 : decode cX7_isOn 196 = .ok (.i2l, 1) := by decide +kernel
theorem dX7_isOn_197 : decode cX7_isOn 197 = .ok (.lconst 1, 1) := by decide +kernel
theorem dX7_isOn_198 : decode cX7_isOn 198 = .ok (.invokestatic 126, 3) := by decide +kernel
theorem dX7_isOn_201 : decode cX7_isOn 201 = .ok (.ifCond .lt 29, 3) := by decide +kernel
theorem dX7_isOn_204 : decode cX7_isOn 204 = .ok (.aload_n 0, 1) := by decide +kernel
theorem dX7_isOn_205 : decode cX7_isOn 205 = .ok (.getfield 29, 3) := by decide +kernel
theorem dX7_isOn_208 : decode cX7_isOn 208 = .ok (.iload_n 1, 1) := by decide +kernel
theorem dX7_isOn_209 : decode cX7_isOn 209 = .ok (.laload, 1) := by decide +kernel
theorem dX7_isOn_210 : decode cX7_isOn 210 = .ok (.aload_n 0, 1) := by decide +kernel
theorem dX7_isOn_211 : decode cX7_isOn 211 = .ok (.getfield 32, 3) := by decide +kernel
theorem dX7_isOn_214 : decode cX7_isOn 214 = .ok (.iload_n 1, 1) := by decide +kernel
theorem dX7_isOn_215 : decode cX7_isOn 215 = .ok (.laload, 1) := by decide +kernel
theorem dX7_isOn_216 : decode cX7_isOn 216 = .ok (.iload 8, 2) := by decide +kernel
theorem dX7_isOn_218 : decode cX7_isOn 218 = .ok (.i2l, 1) := by decide +kernel
theorem dX7_isOn_219 : decode cX7_isOn 219 = .ok (.lconst 1, 1) := by decide +kernel
theorem dX7_isOn_220 : decode cX7_isOn 220 = .ok (.invokestatic 126, 3) := by decide +kernel
theorem dX7_isOn_223 : decode cX7_isOn 223 = .ok (.ifCond .gt 7, 3) := by decide +kernel
theorem dX7_isOn_226 : decode cX7_isOn 226 = .ok (.iconst 1, 1) := by decide +kernel
theorem dX7_isOn_227 : decode cX7_isOn 227 = .ok (.goto 4, 3) := by decide +kernel
theorem dX7_isOn_230 : decode cX7_isOn 230 = .ok (.iconst 0, 1) := by decide +kernel
theorem dX7_isOn_231 : decode cX7_isOn 231 = .ok (.istore 10, 2) := by decide +kernel
theorem dX7_isOn_233 : decode cX7_isOn 233 = .ok (.lload_n 3, 1) := by decide +kernel
theorem dX7_isOn_234 : decode cX7_isOn 234 = .ok (.lload 5, 2) := by decide +kernel
theorem dX7_isOn_236 : decode cX7_isOn 236 = .ok (.lcmp, 1) := by decide +kernel
theorem dX7_isOn_237 : decode cX7_isOn 237 = .ok (.ifCond .ne 17, 3) := by decide +kernel
theorem dX7_isOn_240 : decode cX7_isOn 240 = .ok (.iload 9, 2) := by decide +kernel
theorem dX7_isOn_242 : decode cX7_isOn 242 = .ok (.ifCond .eq 12, 3) := by decide +kernel
theorem dX7_isOn_245 : decode cX7_isOn 245 = .ok (.iload 10, 2) := by decide +kernel
theorem dX7_isOn_247 : decode cX7_isOn 247 = .ok (.ifCond .eq 7, 3) := by decide +kernel
theorem dX7_isOn_250 : decode cX7_isOn 250 = .ok (.iconst 1, 1) := by decide +kernel
theorem dX7_isOn_251 : decode cX7_isOn 251 = .ok (.goto 4, 3) := by decide +kernel
theorem dX7_isOn_254 : decode cX7_isOn 254 = .ok (.iconst 0, 1) := by decide +kernel
theorem dX7_isOn_255 : decode cX7_isOn 255 = .ok (.ireturn, 1) := by decide +kernel
def f_isOn_b231 (F : Nat) (M : MS) (x3 : Int64) (x5 : Int64) (x9 : Int32) (s0 : Int32) : Option Int32 := (if (lg_cmp x3 x5) = 0 then (if x9 = 0 then okB 0 (some 0) else (if s0 = 0 then okB 0 (some 0) else okB 1 (some 1))) else okB 0 (some 0))
def f_isOn_b180 (F : Nat) (M : MS) (x1 : Int32) (x3 : Int64) (x5 : Int64) (x7 : Int32) (x8 : Int32) (s0 : Int32) : Option Int32 := rdL 100 (M.2.2 8) x1 fun t1 => rdL 100 (M.2.2 9) x1 fun t4 => cal (f_compare F M t1 t4 x7.toInt64 1) fun t8 => (if t8 < 0 then f_isOn_b231 F M x3 x5 s0 0 else rdL 100 (M.2.2 8) x1 fun t10 => rdL 100 (M.2.2 9) x1 fun t13 => cal (f_compare F M t10 t13 x8.toInt64 1) fun t17 => (if 0 < t17 then f_isOn_b231 F M x3 x5 s0 0 else f_isOn_b231 F M x3 x5 s0 1))
def f_isOn_b103 (F : Nat) (M : MS) (x1 : Int32) (x2 : Int32) (x3 : Int64) (x5 : Int64) (s0 : Int32) : Option Int32 := rdI 13 (M.2.1 2) x2 fun t1 => rdI 13 (M.2.1 4) x2 fun t4 => rdL 100 (M.2.2 6) x1 fun t7 => rdL 100 (M.2.2 7) x1 fun t10 => rdI 13 (M.2.1 1) x2 fun t13 => cal (f_compare F M t7 t10 t13.toInt64 1) fun t17 => (if t17 < 0 then f_isOn_b180 F M x1 x3 x5 s0 ((t1 + t4) - s0) 0 else rdL 100 (M.2.2 6) x1 fun t19 => rdL 100 (M.2.2 7) x1 fun t22 => rdI 13 (M.2.1 3) x2 fun t25 => cal (f_compare F M t19 t22 t25.toInt64 1) fun t29 => (if 0 < t29 then f_isOn_b180 F M x1 x3 x5 s0 ((t1 + t4) - s0) 0 else f_isOn_b180 F M x1 x3 x5 s0 ((t1 + t4) - s0) 1))
def f_isOn (F : Nat) (M : MS) (a1 : Int32) (a2 : Int32) : Option Int32 := cal (f_dx F M a2) fun t2 => rdL 100 (M.2.2 8) a1 fun t3 => rdI 13 (M.2.1 2) a2 fun t6 => rdL 100 (M.2.2 9) a1 fun t9 => rdL 100 (M.2.2 7) a1 fun t12 => cal (f_dy F M a2) fun t16 => rdL 100 (M.2.2 6) a1 fun t17 => rdI 13 (M.2.1 1) a2 fun t20 => rdL 100 (M.2.2 7) a1 fun t23 => rdL 100 (M.2.2 9) a1 fun t26 => rdI 13 (M.2.1 2) a2 fun t29 => rdI 13 (M.2.1 4) a2 fun t32 => (if t32 ≤ t29 then rdI 13 (M.2.1 4) a2 fun t36 => f_isOn_b103 F M a1 a2 ((t2.toInt64 * (t3 - (t6.toInt64 * t9))) * t12) ((t16.toInt64 * (t17 - (t20.toInt64 * t23))) * t26) t36 else rdI 13 (M.2.1 2) a2 fun t39 => f_isOn_b103 F M a1 a2 ((t2.toInt64 * (t3 - (t6.toInt64 * t9))) * t12) ((t16.toInt64 * (t17 - (t20.toInt64 * t23))) * t26) t39)
set_option maxRecDepth 100000 in
set_option maxHeartbeats 4000000 in
theorem c_isOn (l : Launch) (G : mG) (F : Nat) (M : MS) (a1 : Int32) (a2 : Int32) (r : Int32) (h : f_isOn F M a1 a2 = some r) : mMI l yX7_isOn vX7_isOn ({ frames := 1, cells := 0, slots := 0, locals := 29 }) G [.ref (mO G), .int a1, .int a2] M M r := by
  refine mBodyI (cc := cX7_isOn) (maxL := 11) (ret := (some .boolean)) (by decide) rfl rfl ?_
  intro sz p e s m below meth c hC hP
  have hC0 := hC
  obtain ⟨hx, hb, -, hts, -, -, -, -, -, -⟩ := hC0
  have hS : va_S (mA G sz) s.heap s.heap [] := va_S.rf
  have hin : ∀ w ∈ wsX70, w ∈ vX7_isOn := fun w h => List.mem_cons_of_mem _ (List.mem_append_right _ h)
  have fl_yn := hts _ (List.mem_cons_of_mem _ wm_46)
  have fl_y1 := hts _ (List.mem_cons_of_mem _ wm_13)
  have fl_yd := hts _ (List.mem_cons_of_mem _ wm_47)
  have fl_xd := hts _ (List.mem_cons_of_mem _ wm_45)
  have fl_xn := hts _ (List.mem_cons_of_mem _ wm_44)
  have fl_x1 := hts _ (List.mem_cons_of_mem _ wm_10)
  have fl_y2 := hts _ (List.mem_cons_of_mem _ wm_12)
  have fl_x2 := hts _ (List.mem_cons_of_mem _ wm_9)
  have b231 : ∀ (H : Heap) (locs : List Loc) (ls : Array Slot) (x3 : Int64) (x5 : Int64) (x9 : Int32) (s0 : Int32), va_P G.1 vwCl (mW G M) H → va_S (mA G sz) s.heap H locs → lv_has ls 11 [(0, .ref (mO G)), (3, .long x3), (5, .long x5), (9, .int x9)] → f_isOn_b231 F M x3 x5 x9 s0 = some r → W p l e (headSpec vX7_isOn ({ frames := 1, cells := 0, slots := 0, locals := 29 })).room s m ([.ref (mO G), .int a1, .int a2] : List Value).toArray below meth c H locs 0 0 (mQI below G M sz ([.ref (mO G), .int a1, .int a2] : List Value).toArray s r) (F0 m 231 ls [.int s0]) := by
    intro H locs ls x3 x5 x9 s0 hP hS hl h
    unfold f_isOn_b231 at h
    refine lv_istore (lv' := [(10, .int s0), (0, .ref (mO G)), (3, .long x3), (5, .long x5), (9, .int x9)]) hx hb dX7_isOn_231 hl (by decide) rfl (fun ls hl => ?_)
    refine lv_lload_n hx hb dX7_isOn_233 rfl (lv_at hl 2 rfl) ?_
    refine lv_lload hx hb dX7_isOn_234 (lv_at hl 3 rfl) ?_
    refine W.lcmp hx hb dX7_isOn_236 ?_
    refine lv_if_ne (tgt := 254) hx hb dX7_isOn_237 (by decide) (fun u1 => ?_) (fun u1 => ?_)
    · have h := ite_f u1 h
      refine lv_iconst (v := 0) hx hb dX7_isOn_254 (by decide) ?_
      obtain ⟨z2, h⟩ := okB_el h
      cases h
      exact m_zret hC hP hS z2 rfl dX7_isOn_255
    · have h := ite_t u1 h
      refine lv_iload hx hb dX7_isOn_240 (lv_at hl 4 rfl) ?_
      refine lv_if_eq (tgt := 254) hx hb dX7_isOn_242 (by decide) (fun u3 => ?_) (fun u3 => ?_)
      · have h := ite_t u3 h
        refine lv_iconst (v := 0) hx hb dX7_isOn_254 (by decide) ?_
        obtain ⟨z4, h⟩ := okB_el h
        cases h
        exact m_zret hC hP hS z4 rfl dX7_isOn_255
      · have h := ite_f u3 h
        refine lv_iload hx hb dX7_isOn_245 (lv_at hl 0 rfl) ?_
        refine lv_if_eq (tgt := 254) hx hb dX7_isOn_247 (by decide) (fun u5 => ?_) (fun u5 => ?_)
        · have h := ite_t u5 h
          refine lv_iconst (v := 0) hx hb dX7_isOn_254 (by decide) ?_
          obtain ⟨z6, h⟩ := okB_el h
          cases h
          exact m_zret hC hP hS z6 rfl dX7_isOn_255
        · have h := ite_f u5 h
          refine lv_iconst (v := 1) hx hb dX7_isOn_250 (by decide) ?_
          refine lv_goto (tgt := 255) hx hb dX7_isOn_251 (by decide) ?_
          obtain ⟨z7, h⟩ := okB_el h
          cases h
          exact m_zret hC hP hS z7 rfl dX7_isOn_255
  have b180 : ∀ (H : Heap) (locs : List Loc) (ls : Array Slot) (x1 : Int32) (x3 : Int64) (x5 : Int64) (x7 : Int32) (x8 : Int32) (s0 : Int32), va_P G.1 vwCl (mW G M) H → va_S (mA G sz) s.heap H locs → lv_has ls 11 [(0, .ref (mO G)), (1, .int x1), (3, .long x3), (5, .long x5), (7, .int x7), (8, .int x8)] → f_isOn_b180 F M x1 x3 x5 x7 x8 s0 = some r → W p l e (headSpec vX7_isOn ({ frames := 1, cells := 0, slots := 0, locals := 29 })).room s m ([.ref (mO G), .int a1, .int a2] : List Value).toArray below meth c H locs 0 0 (mQI below G M sz ([.ref (mO G), .int a1, .int a2] : List Value).toArray s r) (F0 m 180 ls [.int s0]) := by
    intro H locs ls x1 x3 x5 x7 x8 s0 hP hS hl h
    unfold f_isOn_b180 at h
    refine lv_istore (lv' := [(9, .int s0), (0, .ref (mO G)), (1, .int x1), (3, .long x3), (5, .long x5), (7, .int x7), (8, .int x8)]) hx hb dX7_isOn_180 hl (by decide) rfl (fun ls hl => ?_)
    refine lv_aload_n hx hb dX7_isOn_182 rfl (lv_at hl 1 rfl) ?_
    refine m_get hC hin hP 8 (by decide) fl_yn rfl (v := .ref (mAd G 8)) rfl dX7_isOn_183 ?_
    refine lv_iload_n hx hb dX7_isOn_186 rfl (lv_at hl 2 rfl) ?_
    obtain ⟨z2, t1, e3, h⟩ := rdL_el h
    refine m_lld hC hP 7 (N := 100) rfl z2 e3 dX7_isOn_187 ?_
    refine lv_aload_n hx hb dX7_isOn_188 rfl (lv_at hl 1 rfl) ?_
    refine m_get hC hin hP 9 (by decide) fl_yd rfl (v := .ref (mAd G 9)) rfl dX7_isOn_189 ?_
    refine lv_iload_n hx hb dX7_isOn_192 rfl (lv_at hl 2 rfl) ?_
    obtain ⟨z5, t4, e6, h⟩ := rdL_el h
    refine m_lld hC hP 8 (N := 100) rfl z5 e6 dX7_isOn_193 ?_
    refine lv_iload hx hb dX7_isOn_194 (lv_at hl 5 rfl) ?_
    refine lv_i2l (v := x7.toInt64) hx hb dX7_isOn_196 rfl ?_
    refine lv_lconst (v := 1) hx hb dX7_isOn_197 (by decide) ?_
    obtain ⟨t8, e7, h⟩ := cal_el h
    refine m_SI (As := [.long t1, .long t4, .long x7.toInt64, .long 1]) (rest := []) hC hP hS (c_compare l G F M t1 t4 x7.toInt64 1 t8 e7) (va_cwS 4 hts (gWMS wm_48 wm_49 wm_7 wm_40) rfl rfl rfl (by decide +kernel) ⟨Nat.le_of_ble_eq_true rfl, Nat.le_of_ble_eq_true rfl⟩) rfl hl.1 rfl (Nat.le_of_ble_eq_true rfl) dX7_isOn_198 (fun H locs hP hS => ?_)
    refine lv_if_lt (tgt := 230) hx hb dX7_isOn_201 (by decide) (fun u9 => ?_) (fun u9 => ?_)
    · have h := ite_t u9 h
      refine lv_iconst (v := 0) hx hb dX7_isOn_230 (by decide) ?_
      exact b231 _ _ _ x3 x5 s0 0 hP hS (lv_sub hl [1, 3, 4, 0] rfl) h
    · have h := ite_f u9 h
      refine lv_aload_n hx hb dX7_isOn_204 rfl (lv_at hl 1 rfl) ?_
      refine m_get hC hin hP 8 (by decide) fl_yn rfl (v := .ref (mAd G 8)) rfl dX7_isOn_205 ?_
      refine lv_iload_n hx hb dX7_isOn_208 rfl (lv_at hl 2 rfl) ?_
      obtain ⟨z11, t10, e12, h⟩ := rdL_el h
      refine m_lld hC hP 7 (N := 100) rfl z11 e12 dX7_isOn_209 ?_
      refine lv_aload_n hx hb dX7_isOn_210 rfl (lv_at hl 1 rfl) ?_
      refine m_get hC hin hP 9 (by decide) fl_yd rfl (v := .ref (mAd G 9)) rfl dX7_isOn_211 ?_
      refine lv_iload_n hx hb dX7_isOn_214 rfl (lv_at hl 2 rfl) ?_
      obtain ⟨z14, t13, e15, h⟩ := rdL_el h
      refine m_lld hC hP 8 (N := 100) rfl z14 e15 dX7_isOn_215 ?_
      refine lv_iload hx hb dX7_isOn_216 (lv_at hl 6 rfl) ?_
      refine lv_i2l (v := x8.toInt64) hx hb dX7_isOn_218 rfl ?_
      refine lv_lconst (v := 1) hx hb dX7_isOn_219 (by decide) ?_
      obtain ⟨t17, e16, h⟩ := cal_el h
      refine m_SI (As := [.long t10, .long t13, .long x8.toInt64, .long 1]) (rest := []) hC hP hS (c_compare l G F M t10 t13 x8.toInt64 1 t17 e16) (va_cwS 4 hts (gWMS wm_48 wm_49 wm_7 wm_40) rfl rfl rfl (by decide +kernel) ⟨Nat.le_of_ble_eq_true rfl, Nat.le_of_ble_eq_true rfl⟩) rfl hl.1 rfl (Nat.le_of_ble_eq_true rfl) dX7_isOn_220 (fun H locs hP hS => ?_)
      refine lv_if_gt (tgt := 230) hx hb dX7_isOn_223 (by decide) (fun u18 => ?_) (fun u18 => ?_)
      · have h := ite_t u18 h
        refine lv_iconst (v := 0) hx hb dX7_isOn_230 (by decide) ?_
        exact b231 _ _ _ x3 x5 s0 0 hP hS (lv_sub hl [1, 3, 4, 0] rfl) h
      · have h := ite_f u18 h
        refine lv_iconst (v := 1) hx hb dX7_isOn_226 (by decide) ?_
        refine lv_goto (tgt := 231) hx hb dX7_isOn_227 (by decide) ?_
        exact b231 _ _ _ x3 x5 s0 1 hP hS (lv_sub hl [1, 3, 4, 0] rfl) h
  have b103 : ∀ (H : Heap) (locs : List Loc) (ls : Array Slot) (x1 : Int32) (x2 : Int32) (x3 : Int64) (x5 : Int64) (s0 : Int32), va_P G.1 vwCl (mW G M) H → va_S (mA G sz) s.heap H locs → lv_has ls 11 [(0, .ref (mO G)), (1, .int x1), (2, .int x2), (3, .long x3), (5, .long x5)] → f_isOn_b103 F M x1 x2 x3 x5 s0 = some r → W p l e (headSpec vX7_isOn ({ frames := 1, cells := 0, slots := 0, locals := 29 })).room s m ([.ref (mO G), .int a1, .int a2] : List Value).toArray below meth c H locs 0 0 (mQI below G M sz ([.ref (mO G), .int a1, .int a2] : List Value).toArray s r) (F0 m 103 ls [.int s0]) := by
    intro H locs ls x1 x2 x3 x5 s0 hP hS hl h
    unfold f_isOn_b103 at h
    refine lv_istore (lv' := [(7, .int s0), (0, .ref (mO G)), (1, .int x1), (2, .int x2), (3, .long x3), (5, .long x5)]) hx hb dX7_isOn_103 hl (by decide) rfl (fun ls hl => ?_)
    refine lv_aload_n hx hb dX7_isOn_105 rfl (lv_at hl 1 rfl) ?_
    refine m_get hC hin hP 2 (by decide) fl_y1 rfl (v := .ref (mAd G 2)) rfl dX7_isOn_106 ?_
    refine lv_iload_n hx hb dX7_isOn_109 rfl (lv_at hl 3 rfl) ?_
    obtain ⟨z2, t1, e3, h⟩ := rdI_el h
    refine m_ild hC hP 2 (N := 13) rfl z2 e3 dX7_isOn_110 ?_
    refine lv_aload_n hx hb dX7_isOn_111 rfl (lv_at hl 1 rfl) ?_
    refine m_get hC hin hP 4 (by decide) fl_y2 rfl (v := .ref (mAd G 4)) rfl dX7_isOn_112 ?_
    refine lv_iload_n hx hb dX7_isOn_115 rfl (lv_at hl 3 rfl) ?_
    obtain ⟨z5, t4, e6, h⟩ := rdI_el h
    refine m_ild hC hP 4 (N := 13) rfl z5 e6 dX7_isOn_116 ?_
    refine lv_iadd hx hb dX7_isOn_117 ?_
    refine lv_iload hx hb dX7_isOn_118 (lv_at hl 0 rfl) ?_
    refine lv_isub hx hb dX7_isOn_120 ?_
    refine lv_istore (lv' := [(8, .int ((t1 + t4) - s0)), (7, .int s0), (0, .ref (mO G)), (1, .int x1), (2, .int x2), (3, .long x3), (5, .long x5)]) hx hb dX7_isOn_121 hl (by decide) rfl (fun ls hl => ?_)
    refine lv_aload_n hx hb dX7_isOn_123 rfl (lv_at hl 2 rfl) ?_
    refine m_get hC hin hP 6 (by decide) fl_xn rfl (v := .ref (mAd G 6)) rfl dX7_isOn_124 ?_
    refine lv_iload_n hx hb dX7_isOn_127 rfl (lv_at hl 3 rfl) ?_
    obtain ⟨z8, t7, e9, h⟩ := rdL_el h
    refine m_lld hC hP 5 (N := 100) rfl z8 e9 dX7_isOn_128 ?_
    refine lv_aload_n hx hb dX7_isOn_129 rfl (lv_at hl 2 rfl) ?_
    refine m_get hC hin hP 7 (by decide) fl_xd rfl (v := .ref (mAd G 7)) rfl dX7_isOn_130 ?_
    refine lv_iload_n hx hb dX7_isOn_133 rfl (lv_at hl 3 rfl) ?_
    obtain ⟨z11, t10, e12, h⟩ := rdL_el h
    refine m_lld hC hP 6 (N := 100) rfl z11 e12 dX7_isOn_134 ?_
    refine lv_aload_n hx hb dX7_isOn_135 rfl (lv_at hl 2 rfl) ?_
    refine m_get hC hin hP 1 (by decide) fl_x1 rfl (v := .ref (mAd G 1)) rfl dX7_isOn_136 ?_
    refine lv_iload_n hx hb dX7_isOn_139 rfl (lv_at hl 4 rfl) ?_
    obtain ⟨z14, t13, e15, h⟩ := rdI_el h
    refine m_ild hC hP 1 (N := 13) rfl z14 e15 dX7_isOn_140 ?_
    refine lv_i2l (v := t13.toInt64) hx hb dX7_isOn_141 rfl ?_
    refine lv_lconst (v := 1) hx hb dX7_isOn_142 (by decide) ?_
    obtain ⟨t17, e16, h⟩ := cal_el h
    refine m_SI (As := [.long t7, .long t10, .long t13.toInt64, .long 1]) (rest := []) hC hP hS (c_compare l G F M t7 t10 t13.toInt64 1 t17 e16) (va_cwS 4 hts (gWMS wm_48 wm_49 wm_7 wm_40) rfl rfl rfl (by decide +kernel) ⟨Nat.le_of_ble_eq_true rfl, Nat.le_of_ble_eq_true rfl⟩) rfl hl.1 rfl (Nat.le_of_ble_eq_true rfl) dX7_isOn_143 (fun H locs hP hS => ?_)
    refine lv_if_lt (tgt := 179) hx hb dX7_isOn_146 (by decide) (fun u18 => ?_) (fun u18 => ?_)
    · have h := ite_t u18 h
      refine lv_iconst (v := 0) hx hb dX7_isOn_179 (by decide) ?_
      exact b180 _ _ _ x1 x3 x5 s0 ((t1 + t4) - s0) 0 hP hS (lv_sub hl [2, 3, 5, 6, 1, 0] rfl) h
    · have h := ite_f u18 h
      refine lv_aload_n hx hb dX7_isOn_149 rfl (lv_at hl 2 rfl) ?_
      refine m_get hC hin hP 6 (by decide) fl_xn rfl (v := .ref (mAd G 6)) rfl dX7_isOn_150 ?_
      refine lv_iload_n hx hb dX7_isOn_153 rfl (lv_at hl 3 rfl) ?_
      obtain ⟨z20, t19, e21, h⟩ := rdL_el h
      refine m_lld hC hP 5 (N := 100) rfl z20 e21 dX7_isOn_154 ?_
      refine lv_aload_n hx hb dX7_isOn_155 rfl (lv_at hl 2 rfl) ?_
      refine m_get hC hin hP 7 (by decide) fl_xd rfl (v := .ref (mAd G 7)) rfl dX7_isOn_156 ?_
      refine lv_iload_n hx hb dX7_isOn_159 rfl (lv_at hl 3 rfl) ?_
      obtain ⟨z23, t22, e24, h⟩ := rdL_el h
      refine m_lld hC hP 6 (N := 100) rfl z23 e24 dX7_isOn_160 ?_
      refine lv_aload_n hx hb dX7_isOn_161 rfl (lv_at hl 2 rfl) ?_
      refine m_get hC hin hP 3 (by decide) fl_x2 rfl (v := .ref (mAd G 3)) rfl dX7_isOn_162 ?_
      refine lv_iload_n hx hb dX7_isOn_165 rfl (lv_at hl 4 rfl) ?_
      obtain ⟨z26, t25, e27, h⟩ := rdI_el h
      refine m_ild hC hP 3 (N := 13) rfl z26 e27 dX7_isOn_166 ?_
      refine lv_i2l (v := t25.toInt64) hx hb dX7_isOn_167 rfl ?_
      refine lv_lconst (v := 1) hx hb dX7_isOn_168 (by decide) ?_
      obtain ⟨t29, e28, h⟩ := cal_el h
      refine m_SI (As := [.long t19, .long t22, .long t25.toInt64, .long 1]) (rest := []) hC hP hS (c_compare l G F M t19 t22 t25.toInt64 1 t29 e28) (va_cwS 4 hts (gWMS wm_48 wm_49 wm_7 wm_40) rfl rfl rfl (by decide +kernel) ⟨Nat.le_of_ble_eq_true rfl, Nat.le_of_ble_eq_true rfl⟩) rfl hl.1 rfl (Nat.le_of_ble_eq_true rfl) dX7_isOn_169 (fun H locs hP hS => ?_)
      refine lv_if_gt (tgt := 179) hx hb dX7_isOn_172 (by decide) (fun u30 => ?_) (fun u30 => ?_)
      · have h := ite_t u30 h
        refine lv_iconst (v := 0) hx hb dX7_isOn_179 (by decide) ?_
        exact b180 _ _ _ x1 x3 x5 s0 ((t1 + t4) - s0) 0 hP hS (lv_sub hl [2, 3, 5, 6, 1, 0] rfl) h
      · have h := ite_f u30 h
        refine lv_iconst (v := 1) hx hb dX7_isOn_175 (by decide) ?_
        refine lv_goto (tgt := 180) hx hb dX7_isOn_176 (by decide) ?_
        exact b180 _ _ _ x1 x3 x5 s0 ((t1 + t4) - s0) 1 hP hS (lv_sub hl [2, 3, 5, 6, 1, 0] rfl) h
  refine m_entry (Nat.le_of_ble_eq_true rfl) (fun ls hl => ?_)
  have hl : lv_has ls 11 [(0, .ref (mO G)), (1, .int a1), (2, .int a2)] := hl
  unfold f_isOn at h
  refine lv_aload_n hx hb dX7_isOn_0 rfl (lv_at hl 0 rfl) ?_
  refine lv_iload_n hx hb dX7_isOn_1 rfl (lv_at hl 2 rfl) ?_
  obtain ⟨t2, e1, h⟩ := cal_el h
  refine m_VI (As := [.int a2]) (rest := []) hC hP hS (c_dx l G F M a2 t2 e1) (cwV 1 hts (gWM wm_15 wm_16 wm_17 wm_7 wm_8) rfl rfl rfl (by decide +kernel) ⟨Nat.le_of_ble_eq_true rfl, Nat.le_of_ble_eq_true rfl⟩) rfl hl.1 rfl (Nat.le_of_ble_eq_true rfl) dX7_isOn_2 (fun H locs hP hS => ?_)
  refine lv_i2l (v := t2.toInt64) hx hb dX7_isOn_5 rfl ?_
  refine lv_aload_n hx hb dX7_isOn_6 rfl (lv_at hl 0 rfl) ?_
  refine m_get hC hin hP 8 (by decide) fl_yn rfl (v := .ref (mAd G 8)) rfl dX7_isOn_7 ?_
  refine lv_iload_n hx hb dX7_isOn_10 rfl (lv_at hl 1 rfl) ?_
  obtain ⟨z4, t3, e5, h⟩ := rdL_el h
  refine m_lld hC hP 7 (N := 100) rfl z4 e5 dX7_isOn_11 ?_
  refine lv_aload_n hx hb dX7_isOn_12 rfl (lv_at hl 0 rfl) ?_
  refine m_get hC hin hP 2 (by decide) fl_y1 rfl (v := .ref (mAd G 2)) rfl dX7_isOn_13 ?_
  refine lv_iload_n hx hb dX7_isOn_16 rfl (lv_at hl 2 rfl) ?_
  obtain ⟨z7, t6, e8, h⟩ := rdI_el h
  refine m_ild hC hP 2 (N := 13) rfl z7 e8 dX7_isOn_17 ?_
  refine lv_i2l (v := t6.toInt64) hx hb dX7_isOn_18 rfl ?_
  refine lv_aload_n hx hb dX7_isOn_19 rfl (lv_at hl 0 rfl) ?_
  refine m_get hC hin hP 9 (by decide) fl_yd rfl (v := .ref (mAd G 9)) rfl dX7_isOn_20 ?_
  refine lv_iload_n hx hb dX7_isOn_23 rfl (lv_at hl 1 rfl) ?_
  obtain ⟨z10, t9, e11, h⟩ := rdL_el h
  refine m_lld hC hP 8 (N := 100) rfl z10 e11 dX7_isOn_24 ?_
  refine lv_lmul hx hb dX7_isOn_25 ?_
  refine lv_lsub hx hb dX7_isOn_26 ?_
  refine lv_lmul hx hb dX7_isOn_27 ?_
  refine lv_aload_n hx hb dX7_isOn_28 rfl (lv_at hl 0 rfl) ?_
  refine m_get hC hin hP 7 (by decide) fl_xd rfl (v := .ref (mAd G 7)) rfl dX7_isOn_29 ?_
  refine lv_iload_n hx hb dX7_isOn_32 rfl (lv_at hl 1 rfl) ?_
  obtain ⟨z13, t12, e14, h⟩ := rdL_el h
  refine m_lld hC hP 6 (N := 100) rfl z13 e14 dX7_isOn_33 ?_
  refine lv_lmul hx hb dX7_isOn_34 ?_
  refine lv_lstore_n (lv' := [(3, .long ((t2.toInt64 * (t3 - (t6.toInt64 * t9))) * t12)), (0, .ref (mO G)), (1, .int a1), (2, .int a2)]) hx hb dX7_isOn_35 rfl hl (by decide) rfl (fun ls hl => ?_)
  refine lv_aload_n hx hb dX7_isOn_36 rfl (lv_at hl 1 rfl) ?_
  refine lv_iload_n hx hb dX7_isOn_37 rfl (lv_at hl 3 rfl) ?_
  obtain ⟨t16, e15, h⟩ := cal_el h
  refine m_VI (As := [.int a2]) (rest := []) hC hP hS (c_dy l G F M a2 t16 e15) (cwV 1 hts (gWM wm_18 wm_19 wm_20 wm_7 wm_11) rfl rfl rfl (by decide +kernel) ⟨Nat.le_of_ble_eq_true rfl, Nat.le_of_ble_eq_true rfl⟩) rfl hl.1 rfl (Nat.le_of_ble_eq_true rfl) dX7_isOn_38 (fun H locs hP hS => ?_)
  refine lv_i2l (v := t16.toInt64) hx hb dX7_isOn_41 rfl ?_
  refine lv_aload_n hx hb dX7_isOn_42 rfl (lv_at hl 1 rfl) ?_
  refine m_get hC hin hP 6 (by decide) fl_xn rfl (v := .ref (mAd G 6)) rfl dX7_isOn_43 ?_
  refine lv_iload_n hx hb dX7_isOn_46 rfl (lv_at hl 2 rfl) ?_
  obtain ⟨z18, t17, e19, h⟩ := rdL_el h
  refine m_lld hC hP 5 (N := 100) rfl z18 e19 dX7_isOn_47 ?_
  refine lv_aload_n hx hb dX7_isOn_48 rfl (lv_at hl 1 rfl) ?_
  refine m_get hC hin hP 1 (by decide) fl_x1 rfl (v := .ref (mAd G 1)) rfl dX7_isOn_49 ?_
  refine lv_iload_n hx hb dX7_isOn_52 rfl (lv_at hl 3 rfl) ?_
  obtain ⟨z21, t20, e22, h⟩ := rdI_el h
  refine m_ild hC hP 1 (N := 13) rfl z21 e22 dX7_isOn_53 ?_
  refine lv_i2l (v := t20.toInt64) hx hb dX7_isOn_54 rfl ?_
  refine lv_aload_n hx hb dX7_isOn_55 rfl (lv_at hl 1 rfl) ?_
  refine m_get hC hin hP 7 (by decide) fl_xd rfl (v := .ref (mAd G 7)) rfl dX7_isOn_56 ?_
  refine lv_iload_n hx hb dX7_isOn_59 rfl (lv_at hl 2 rfl) ?_
  obtain ⟨z24, t23, e25, h⟩ := rdL_el h
  refine m_lld hC hP 6 (N := 100) rfl z24 e25 dX7_isOn_60 ?_
  refine lv_lmul hx hb dX7_isOn_61 ?_
  refine lv_lsub hx hb dX7_isOn_62 ?_
  refine lv_lmul hx hb dX7_isOn_63 ?_
  refine lv_aload_n hx hb dX7_isOn_64 rfl (lv_at hl 1 rfl) ?_
  refine m_get hC hin hP 9 (by decide) fl_yd rfl (v := .ref (mAd G 9)) rfl dX7_isOn_65 ?_
  refine lv_iload_n hx hb dX7_isOn_68 rfl (lv_at hl 2 rfl) ?_
  obtain ⟨z27, t26, e28, h⟩ := rdL_el h
  refine m_lld hC hP 8 (N := 100) rfl z27 e28 dX7_isOn_69 ?_
  refine lv_lmul hx hb dX7_isOn_70 ?_
  refine lv_lstore (lv' := [(5, .long ((t16.toInt64 * (t17 - (t20.toInt64 * t23))) * t26)), (3, .long ((t2.toInt64 * (t3 - (t6.toInt64 * t9))) * t12)), (0, .ref (mO G)), (1, .int a1), (2, .int a2)]) hx hb dX7_isOn_71 hl (by decide) rfl (fun ls hl => ?_)
  refine lv_aload_n hx hb dX7_isOn_73 rfl (lv_at hl 2 rfl) ?_
  refine m_get hC hin hP 2 (by decide) fl_y1 rfl (v := .ref (mAd G 2)) rfl dX7_isOn_74 ?_
  refine lv_iload_n hx hb dX7_isOn_77 rfl (lv_at hl 4 rfl) ?_
  obtain ⟨z30, t29, e31, h⟩ := rdI_el h
  refine m_ild hC hP 2 (N := 13) rfl z30 e31 dX7_isOn_78 ?_
  refine lv_aload_n hx hb dX7_isOn_79 rfl (lv_at hl 2 rfl) ?_
  refine m_get hC hin hP 4 (by decide) fl_y2 rfl (v := .ref (mAd G 4)) rfl dX7_isOn_80 ?_
  refine lv_iload_n hx hb dX7_isOn_83 rfl (lv_at hl 4 rfl) ?_
  obtain ⟨z33, t32, e34, h⟩ := rdI_el h
  refine m_ild hC hP 4 (N := 13) rfl z33 e34 dX7_isOn_84 ?_
  refine lv_icmp_ge (tgt := 97) hx hb dX7_isOn_85 (by decide) (fun u35 => ?_) (fun u35 => ?_)
  · have h := ite_t u35 h
    refine lv_aload_n hx hb dX7_isOn_97 rfl (lv_at hl 2 rfl) ?_
    refine m_get hC hin hP 4 (by decide) fl_y2 rfl (v := .ref (mAd G 4)) rfl dX7_isOn_98 ?_
    refine lv_iload_n hx hb dX7_isOn_101 rfl (lv_at hl 4 rfl) ?_
    obtain ⟨z37, t36, e38, h⟩ := rdI_el h
    refine m_ild hC hP 4 (N := 13) rfl z37 e38 dX7_isOn_102 ?_
    exact b103 _ _ _ a1 a2 ((t2.toInt64 * (t3 - (t6.toInt64 * t9))) * t12) ((t16.toInt64 * (t17 - (t20.toInt64 * t23))) * t26) t36 hP hS (lv_sub hl [2, 3, 4, 1, 0] rfl) h
  · have h := ite_f u35 h
    refine lv_aload_n hx hb dX7_isOn_88 rfl (lv_at hl 2 rfl) ?_
    refine m_get hC hin hP 2 (by decide) fl_y1 rfl (v := .ref (mAd G 2)) rfl dX7_isOn_89 ?_
    refine lv_iload_n hx hb dX7_isOn_92 rfl (lv_at hl 4 rfl) ?_
    obtain ⟨z40, t39, e41, h⟩ := rdI_el h
    refine m_ild hC hP 2 (N := 13) rfl z40 e41 dX7_isOn_93 ?_
    refine lv_goto (tgt := 103) hx hb dX7_isOn_94 (by decide) ?_
    exact b103 _ _ _ a1 a2 ((t2.toInt64 * (t3 - (t6.toInt64 * t9))) * t12) ((t16.toInt64 * (t17 - (t20.toInt64 * t23))) * t26) t39 hP hS (lv_sub hl [2, 3, 4, 1, 0] rfl) h
