theorem dJx4a65c_size_8abf5_0 : decode cJx4a65c_size_8abf5 0 = .ok (.aload_n 0, 1) := by decide +kernel
theorem dJx4a65c_size_8abf5_1 : decode cJx4a65c_size_8abf5 1 = .ok (.getfield 48, 3) := by decide +kernel
theorem dJx4a65c_size_8abf5_4 : decode cJx4a65c_size_8abf5 4 = .ok (.ireturn, 1) := by decide +kernel
def f_Jx4a65c_size_8abf5 (F : Nat) (S : CS) (D : CD) (a0 : Nat) : Option Int32 := ckK S a0 7 <| some (D.1 a0 2)
set_option maxRecDepth 100000 in
set_option maxHeartbeats 4000000 in
theorem m_Jx4a65c_size_8abf5 (l : Launch) (G : cG) (F : Nat) (S : CS) (D : CD) (a0 : Nat) (r : Int32) (h : f_Jx4a65c_size_8abf5 F S D a0 = some r) : cMI l yJx4a65c_size_8abf5 vJx4a65c_size_8abf5 ({ frames := 0, cells := 0, slots := 0, locals := 0 }) G S [.ref a0] D D r := by
  refine cBodyI (cc := cJx4a65c_size_8abf5) (maxL := 1) (ret := (some .int)) (own := RJx4a65c) (by decide) rfl rfl ?_
  intro sz p e s m below meth c hC hP
  have hC0 := hC
  obtain ⟨hx, hb, -, hts, hown, -, hml, -, -, -⟩ := hC0
  have hS : va_S (cA G S sz) s.heap s.heap [] := va_S.rf
  have hin_Jx4a65c : ∀ w ∈ wsJx4a65c0, w ∈ vJx4a65c_size_8abf5 := fun w h => List.mem_cons_of_mem _ (hWC7 w h)
  have fl_Jx4a65c_size := hts _ (List.mem_cons_of_mem _ wc_1)
  refine m_entry (Nat.le_of_ble_eq_true rfl) (fun ls hl => ?_)
  have hl : lv_has ls 1 [(0, .ref a0)] := hl
  unfold f_Jx4a65c_size_8abf5 at h
  refine lv_aload_n hx hb dJx4a65c_size_8abf5_0 rfl (lv_at hl 0 rfl) ?_
  obtain ⟨z1, h⟩ := ckK_el h
  refine c_get (C := RJx4a65c) (T := TJx4a65c) (N := 3) (ref := "java/util/ArrayList") (ci := 0) (v := .int (D.1 a0 2)) hC hin_Jx4a65c hP z1.1 (cE_7 z1.2) rfl 2 (by decide) fl_Jx4a65c_size rfl rfl dJx4a65c_size_8abf5_1 ?_
  cases h
  exact c_iret hC hP hS rfl dJx4a65c_size_8abf5_4

theorem dX6_segments_0 : decode cX6_segments 0 = .ok (.aload_n 0, 1) := by decide +kernel
theorem dX6_segments_1 : decode cX6_segments 1 = .ok (.getfield 12, 3) := by decide +kernel
theorem dX6_segments_4 : decode cX6_segments 4 = .ok (.invokevirtual 75, 3) := by decide +kernel
theorem dX6_segments_7 : decode cX6_segments 7 = .ok (.ireturn, 1) := by decide +kernel
def f_X6_segments (F : Nat) (S : CS) (D : CD) (a0 : Nat) : Option Int32 := ckK S a0 6 <| cal (S.2.2.1 a0 0) fun p2 => ckK S p2 7 <| cal (f_Jx4a65c_size_8abf5 F S D p2) fun t6 => some t6
set_option maxRecDepth 100000 in
set_option maxHeartbeats 4000000 in
theorem m_X6_segments (l : Launch) (G : cG) (F : Nat) (S : CS) (D : CD) (a0 : Nat) (r : Int32) (h : f_X6_segments F S D a0 = some r) : cMI l yX6_segments vX6_segments ({ frames := 1, cells := 0, slots := 0, locals := 20 }) G S [.ref a0] D D r := by
  refine cBodyI (cc := cX6_segments) (maxL := 1) (ret := (some .int)) (own := RX6) (by decide) rfl rfl ?_
  intro sz p e s m below meth c hC hP
  have hC0 := hC
  obtain ⟨hx, hb, -, hts, hown, -, hml, -, -, -⟩ := hC0
  have hS : va_S (cA G S sz) s.heap s.heap [] := va_S.rf
  have hin_X6 : ∀ w ∈ wsX60, w ∈ vX6_segments := fun w h => List.mem_cons_of_mem _ (hWC6 w h)
  have fl_X6_lines := hts _ (List.mem_cons_of_mem _ wc_3)
  refine m_entry (Nat.le_of_ble_eq_true rfl) (fun ls hl => ?_)
  have hl : lv_has ls 1 [(0, .ref a0)] := hl
  unfold f_X6_segments at h
  refine lv_aload_n hx hb dX6_segments_0 rfl (lv_at hl 0 rfl) ?_
  obtain ⟨z1, h⟩ := ckK_el h
  obtain ⟨p2, e3, h⟩ := cal_el h
  refine c_get (C := RX6) (T := TX6) (N := 8) (ref := "SegmentMap") (ci := 7) (v := .ref p2) hC hin_X6 hP z1.1 (cE_6 z1.2) rfl 0 (by decide) fl_X6_lines rfl (by show some (va_rf (S.2.2.1 a0 0)) = _; rw [e3]; rfl) dX6_segments_1 ?_
  obtain ⟨z4, h⟩ := ckK_el h
  obtain ⟨t6, e5, h⟩ := cal_el h
  refine c_VI (As := []) (rest := []) hC hP hS z4.1 (cE_7 z4.2) (C := RJx4a65c) (T := TJx4a65c) (N := 3) rfl (m_Jx4a65c_size_8abf5 l G F S D p2 t6 e5) (cwV 0 hts (gWC wc_4 wc_5 wc_6 wc_7 wc_0) rfl rfl rfl (by decide +kernel) ⟨Nat.le_of_ble_eq_true rfl, Nat.le_of_ble_eq_true rfl⟩) rfl hl.1 rfl (Nat.le_of_ble_eq_true rfl) dX6_segments_4 (fun H locs hP hS => ?_)
  cases h
  exact c_iret hC hP hS rfl dX6_segments_7

theorem dX6_checkSegment_0 : decode cX6_checkSegment 0 = .ok (.iload_n 1, 1) := by decide +kernel
theorem dX6_checkSegment_1 : decode cX6_checkSegment 1 = .ok (.ifCond .lt 14, 3) := by decide +kernel
theorem dX6_checkSegment_4 : decode cX6_checkSegment 4 = .ok (.iload_n 1, 1) := by decide +kernel
theorem dX6_checkSegment_5 : decode cX6_checkSegment 5 = .ok (.aload_n 0, 1) := by decide +kernel
theorem dX6_checkSegment_6 : decode cX6_checkSegment 6 = .ok (.getfield 12, 3) := by decide +kernel
theorem dX6_checkSegment_9 : decode cX6_checkSegment 9 = .ok (.invokevirtual 75, 3) := by decide +kernel
theorem dX6_checkSegment_12 : decode cX6_checkSegment 12 = .ok (.if_icmp .lt 13, 3) := by decide +kernel
theorem dX6_checkSegment_15 : decode cX6_checkSegment 15 = .ok (.new 190, 3) := by decide +kernel
theorem dX6_checkSegment_18 : decode cX6_checkSegment 18 = .ok (.dup, 1) := by decide +kernel
theorem dX6_checkSegment_19 : decode cX6_checkSegment 19 = .ok (.ldc 209, 2) := by decide +kernel
theorem dX6_checkSegment_21 : decode cX6_checkSegment 21 = .ok (.invokespecial 194, 3) := by decide +kernel
theorem dX6_checkSegment_24 : decode cX6_checkSegment 24 = .ok (.athrow, 1) := by decide +kernel
theorem dX6_checkSegment_25 : decode cX6_checkSegment 25 = .ok (.return_, 1) := by decide +kernel
def f_X6_checkSegment (F : Nat) (S : CS) (D : CD) (a0 : Nat) (a1 : Int32) : Option Unit := (if a1 < 0 then none else ckK S a0 6 <| cal (S.2.2.1 a0 0) fun p3 => ckK S p3 7 <| cal (f_Jx4a65c_size_8abf5 F S D p3) fun t7 => (if a1 < t7 then some () else none))
set_option maxRecDepth 100000 in
set_option maxHeartbeats 4000000 in
theorem m_X6_checkSegment (l : Launch) (G : cG) (F : Nat) (S : CS) (D : CD) (a0 : Nat) (a1 : Int32) (h : f_X6_checkSegment F S D a0 a1 = some ()) : cMV l yX6_checkSegment vX6_checkSegment ({ frames := 1, cells := 0, slots := 0, locals := 20 }) G S [.ref a0, .int a1] D D := by
  refine cBodyV (cc := cX6_checkSegment) (maxL := 2) (ret := none) (own := RX6) (by decide) rfl rfl ?_
  intro sz p e s m below meth c hC hP
  have hC0 := hC
  obtain ⟨hx, hb, -, hts, hown, -, hml, -, -, -⟩ := hC0
  have hS : va_S (cA G S sz) s.heap s.heap [] := va_S.rf
  have hin_X6 : ∀ w ∈ wsX60, w ∈ vX6_checkSegment := fun w h => List.mem_cons_of_mem _ (hWC6 w h)
  have fl_X6_lines := hts _ (List.mem_cons_of_mem _ wc_3)
  refine m_entry (Nat.le_of_ble_eq_true rfl) (fun ls hl => ?_)
  have hl : lv_has ls 2 [(0, .ref a0), (1, .int a1)] := hl
  unfold f_X6_checkSegment at h
  refine lv_iload_n hx hb dX6_checkSegment_0 rfl (lv_at hl 1 rfl) ?_
  refine lv_if_lt (tgt := 15) hx hb dX6_checkSegment_1 (by decide) (fun u1 => ?_) (fun u1 => ?_)
  · have h := ite_t u1 h
    cases h
  · have h := ite_f u1 h
    refine lv_iload_n hx hb dX6_checkSegment_4 rfl (lv_at hl 1 rfl) ?_
    refine lv_aload_n hx hb dX6_checkSegment_5 rfl (lv_at hl 0 rfl) ?_
    obtain ⟨z2, h⟩ := ckK_el h
    obtain ⟨p3, e4, h⟩ := cal_el h
    refine c_get (C := RX6) (T := TX6) (N := 8) (ref := "SegmentMap") (ci := 7) (v := .ref p3) hC hin_X6 hP z2.1 (cE_6 z2.2) rfl 0 (by decide) fl_X6_lines rfl (by show some (va_rf (S.2.2.1 a0 0)) = _; rw [e4]; rfl) dX6_checkSegment_6 ?_
    obtain ⟨z5, h⟩ := ckK_el h
    obtain ⟨t7, e6, h⟩ := cal_el h
    refine c_VI (As := []) (rest := [.int a1]) hC hP hS z5.1 (cE_7 z5.2) (C := RJx4a65c) (T := TJx4a65c) (N := 3) rfl (m_Jx4a65c_size_8abf5 l G F S D p3 t7 e6) (cwV 0 hts (gWC wc_4 wc_5 wc_6 wc_7 wc_0) rfl rfl rfl (by decide +kernel) ⟨Nat.le_of_ble_eq_true rfl, Nat.le_of_ble_eq_true rfl⟩) rfl hl.1 rfl (Nat.le_of_ble_eq_true rfl) dX6_checkSegment_9 (fun H locs hP hS => ?_)
    refine lv_icmp_lt (tgt := 25) hx hb dX6_checkSegment_12 (by decide) (fun u8 => ?_) (fun u8 => ?_)
    · have h := ite_t u8 h
      cases h
      exact c_vret hC hP hS dX6_checkSegment_25
    · have h := ite_f u8 h
      cases h

theorem dJ3_checkIndex_8e157_0 : decode cJ3_checkIndex_8e157 0 = .ok (.iload_n 0, 1) := by decide +kernel
theorem dJ3_checkIndex_8e157_1 : decode cJ3_checkIndex_8e157 1 = .ok (.ifCond .lt 8, 3) := by decide +kernel
theorem dJ3_checkIndex_8e157_4 : decode cJ3_checkIndex_8e157 4 = .ok (.iload_n 0, 1) := by decide +kernel
theorem dJ3_checkIndex_8e157_5 : decode cJ3_checkIndex_8e157 5 = .ok (.iload_n 1, 1) := by decide +kernel
theorem dJ3_checkIndex_8e157_6 : decode cJ3_checkIndex_8e157 6 = .ok (.if_icmp .lt 10, 3) := by decide +kernel
theorem dJ3_checkIndex_8e157_9 : decode cJ3_checkIndex_8e157 9 = .ok (.aload_n 2, 1) := by decide +kernel
theorem dJ3_checkIndex_8e157_10 : decode cJ3_checkIndex_8e157 10 = .ok (.iload_n 0, 1) := by decide +kernel
theorem dJ3_checkIndex_8e157_11 : decode cJ3_checkIndex_8e157 11 = .ok (.iload_n 1, 1) := by decide +kernel
theorem dJ3_checkIndex_8e157_12 : decode cJ3_checkIndex_8e157 12 = .ok (.invokestatic 95, 3) := by decide +kernel
theorem dJ3_checkIndex_8e157_15 : decode cJ3_checkIndex_8e157 15 = .ok (.athrow, 1) := by decide +kernel
theorem dJ3_checkIndex_8e157_16 : decode cJ3_checkIndex_8e157 16 = .ok (.iload_n 0, 1) := by decide +kernel
theorem dJ3_checkIndex_8e157_17 : decode cJ3_checkIndex_8e157 17 = .ok (.ireturn, 1) := by decide +kernel
def f_J3_checkIndex_8e157_b9 (F : Nat) (S : CS) (D : CD) (x0 : Int32) (x1 : Int32) : Option Int32 := none
def f_J3_checkIndex_8e157 (F : Nat) (S : CS) (D : CD) (a1 : Int32) (a2 : Int32) : Option Int32 := (if a1 < 0 then f_J3_checkIndex_8e157_b9 F S D a1 a2 else (if a1 < a2 then some a1 else f_J3_checkIndex_8e157_b9 F S D a1 a2))
set_option maxRecDepth 100000 in
set_option maxHeartbeats 4000000 in
theorem m_J3_checkIndex_8e157 (l : Launch) (G : cG) (F : Nat) (S : CS) (D : CD) (a1 : Int32) (a2 : Int32) (r : Int32) (h : f_J3_checkIndex_8e157 F S D a1 a2 = some r) : cMI l yJ3_checkIndex_8e157 vJ3_checkIndex_8e157 ({ frames := 0, cells := 0, slots := 0, locals := 0 }) G S [.int a1, .int a2, .null] D D r := by
  refine cBodyI (cc := cJ3_checkIndex_8e157) (maxL := 3) (ret := (some .int)) (own := RJ3) (by decide) rfl rfl ?_
  intro sz p e s m below meth c hC hP
  have hC0 := hC
  obtain ⟨hx, hb, -, hts, hown, -, hml, -, -, -⟩ := hC0
  have hS : va_S (cA G S sz) s.heap s.heap [] := va_S.rf
  have b9 : ∀ (H : Heap) (locs : List Loc) (ls : Array Slot) (x0 : Int32) (x1 : Int32), va_P G.1 vwCl (cW G S D) H → va_S (cA G S sz) s.heap H locs → lv_has ls 3 [(0, .int x0), (1, .int x1), (2, .null)] → f_J3_checkIndex_8e157_b9 F S D x0 x1 = some r → W p l e (headSpec vJ3_checkIndex_8e157 ({ frames := 0, cells := 0, slots := 0, locals := 0 })).room s m ([.int a1, .int a2, .null] : List Value).toArray below meth c H locs 0 0 (cQI below G S D sz ([.int a1, .int a2, .null] : List Value).toArray s r) (F0 m 9 ls []) := by
    intro H locs ls x0 x1 hP hS hl h
    unfold f_J3_checkIndex_8e157_b9 at h
    refine lv_aload_nN hx hb dJ3_checkIndex_8e157_9 rfl (lv_at hl 2 rfl) ?_
    refine lv_iload_n hx hb dJ3_checkIndex_8e157_10 rfl (lv_at hl 0 rfl) ?_
    refine lv_iload_n hx hb dJ3_checkIndex_8e157_11 rfl (lv_at hl 1 rfl) ?_
    cases h
  refine m_entry (Nat.le_of_ble_eq_true rfl) (fun ls hl => ?_)
  have hl : lv_has ls 3 [(0, .int a1), (1, .int a2), (2, .null)] := hl
  unfold f_J3_checkIndex_8e157 at h
  refine lv_iload_n hx hb dJ3_checkIndex_8e157_0 rfl (lv_at hl 0 rfl) ?_
  refine lv_if_lt (tgt := 9) hx hb dJ3_checkIndex_8e157_1 (by decide) (fun u1 => ?_) (fun u1 => ?_)
  · have h := ite_t u1 h
    exact b9 _ _ _ a1 a2 hP hS (lv_sub hl [0, 1, 2] rfl) h
  · have h := ite_f u1 h
    refine lv_iload_n hx hb dJ3_checkIndex_8e157_4 rfl (lv_at hl 0 rfl) ?_
    refine lv_iload_n hx hb dJ3_checkIndex_8e157_5 rfl (lv_at hl 1 rfl) ?_
    refine lv_icmp_lt (tgt := 16) hx hb dJ3_checkIndex_8e157_6 (by decide) (fun u2 => ?_) (fun u2 => ?_)
    · have h := ite_t u2 h
      refine lv_iload_n hx hb dJ3_checkIndex_8e157_16 rfl (lv_at hl 0 rfl) ?_
      cases h
      exact c_iret hC hP hS rfl dJ3_checkIndex_8e157_17
    · have h := ite_f u2 h
      exact b9 _ _ _ a1 a2 hP hS (lv_sub hl [0, 1, 2] rfl) h

theorem dJ15_checkIndex_7cf53_0 : decode cJ15_checkIndex_7cf53 0 = .ok (.iload_n 0, 1) := by decide +kernel
theorem dJ15_checkIndex_7cf53_1 : decode cJ15_checkIndex_7cf53 1 = .ok (.iload_n 1, 1) := by decide +kernel
theorem dJ15_checkIndex_7cf53_2 : decode cJ15_checkIndex_7cf53 2 = .ok (.aconst_null, 1) := by decide +kernel
theorem dJ15_checkIndex_7cf53_3 : decode cJ15_checkIndex_7cf53 3 = .ok (.invokestatic 105, 3) := by decide +kernel
theorem dJ15_checkIndex_7cf53_6 : decode cJ15_checkIndex_7cf53 6 = .ok (.ireturn, 1) := by decide +kernel
def f_J15_checkIndex_7cf53 (F : Nat) (S : CS) (D : CD) (a1 : Int32) (a2 : Int32) : Option Int32 := cal (f_J3_checkIndex_8e157 F S D a1 a2) fun t2 => some t2
set_option maxRecDepth 100000 in
set_option maxHeartbeats 4000000 in
theorem m_J15_checkIndex_7cf53 (l : Launch) (G : cG) (F : Nat) (S : CS) (D : CD) (a1 : Int32) (a2 : Int32) (r : Int32) (h : f_J15_checkIndex_7cf53 F S D a1 a2 = some r) : cMI l yJ15_checkIndex_7cf53 vJ15_checkIndex_7cf53 ({ frames := 1, cells := 0, slots := 0, locals := 22 }) G S [.int a1, .int a2] D D r := by
  refine cBodyI (cc := cJ15_checkIndex_7cf53) (maxL := 2) (ret := (some .int)) (own := RJ15) (by decide) rfl rfl ?_
  intro sz p e s m below meth c hC hP
  have hC0 := hC
  obtain ⟨hx, hb, -, hts, hown, -, hml, -, -, -⟩ := hC0
  have hS : va_S (cA G S sz) s.heap s.heap [] := va_S.rf
  refine m_entry (Nat.le_of_ble_eq_true rfl) (fun ls hl => ?_)
  have hl : lv_has ls 2 [(0, .int a1), (1, .int a2)] := hl
  unfold f_J15_checkIndex_7cf53 at h
  refine lv_iload_n hx hb dJ15_checkIndex_7cf53_0 rfl (lv_at hl 0 rfl) ?_
  refine lv_iload_n hx hb dJ15_checkIndex_7cf53_1 rfl (lv_at hl 1 rfl) ?_
  refine lv_null hx hb dJ15_checkIndex_7cf53_2 ?_
  obtain ⟨t2, e1, h⟩ := cal_el h
  refine c_SI (As := [.int a1, .int a2, .null]) (rest := []) hC hP hS (m_J3_checkIndex_8e157 l G F S D a1 a2 t2 e1) (va_cwS 3 hts (gWCS wc_11 wc_12 wc_13 wc_9) rfl rfl rfl (by decide +kernel) ⟨Nat.le_of_ble_eq_true rfl, Nat.le_of_ble_eq_true rfl⟩) rfl hl.1 rfl (Nat.le_of_ble_eq_true rfl) dJ15_checkIndex_7cf53_3 (fun H locs hP hS => ?_)
  cases h
  exact c_iret hC hP hS rfl dJ15_checkIndex_7cf53_6

theorem dJx4a65c_elementData_915e3_0 : decode cJx4a65c_elementData_915e3 0 = .ok (.aload_n 0, 1) := by decide +kernel
theorem dJx4a65c_elementData_915e3_1 : decode cJx4a65c_elementData_915e3 1 = .ok (.getfield 9, 3) := by decide +kernel
theorem dJx4a65c_elementData_915e3_4 : decode cJx4a65c_elementData_915e3 4 = .ok (.iload_n 1, 1) := by decide +kernel
theorem dJx4a65c_elementData_915e3_5 : decode cJx4a65c_elementData_915e3 5 = .ok (.aaload, 1) := by decide +kernel
theorem dJx4a65c_elementData_915e3_6 : decode cJx4a65c_elementData_915e3 6 = .ok (.areturn, 1) := by decide +kernel
def f_Jx4a65c_elementData_915e3 (F : Nat) (S : CS) (D : CD) (a0 : Nat) (a1 : Int32) : Option Nat := ckK S a0 7 <| cal (S.2.2.1 a0 1) fun p2 => ckK S p2 10 <| rdA (S.2.2.2 p2) (D.2.2.2 p2) a1 fun p5 => some p5
set_option maxRecDepth 100000 in
set_option maxHeartbeats 4000000 in
theorem m_Jx4a65c_elementData_915e3 (l : Launch) (G : cG) (F : Nat) (S : CS) (D : CD) (a0 : Nat) (a1 : Int32) (r : Nat) (h : f_Jx4a65c_elementData_915e3 F S D a0 a1 = some r) : cMA l yJx4a65c_elementData_915e3 vJx4a65c_elementData_915e3 ({ frames := 0, cells := 0, slots := 0, locals := 0 }) G S [.ref a0, .int a1] D D r := by
  refine cBodyA (cc := cJx4a65c_elementData_915e3) (maxL := 2) (ret := (some (.object "java/lang/Object"))) (own := RJx4a65c) (by decide) rfl rfl ?_
  intro sz p e s m below meth c hC hP
  have hC0 := hC
  obtain ⟨hx, hb, -, hts, hown, -, hml, -, -, -⟩ := hC0
  have hS : va_S (cA G S sz) s.heap s.heap [] := va_S.rf
  have hin_Jx4a65c : ∀ w ∈ wsJx4a65c0, w ∈ vJx4a65c_elementData_915e3 := fun w h => List.mem_cons_of_mem _ (hWC7 w h)
  have fl_Jx4a65c_elementData := hts _ (List.mem_cons_of_mem _ wc_15)
  refine m_entry (Nat.le_of_ble_eq_true rfl) (fun ls hl => ?_)
  have hl : lv_has ls 2 [(0, .ref a0), (1, .int a1)] := hl
  unfold f_Jx4a65c_elementData_915e3 at h
  refine lv_aload_n hx hb dJx4a65c_elementData_915e3_0 rfl (lv_at hl 0 rfl) ?_
  obtain ⟨z1, h⟩ := ckK_el h
  obtain ⟨p2, e3, h⟩ := cal_el h
  refine c_get (C := RJx4a65c) (T := TJx4a65c) (N := 3) (ref := "java/util/ArrayList") (ci := 0) (v := .ref p2) hC hin_Jx4a65c hP z1.1 (cE_7 z1.2) rfl 1 (by decide) fl_Jx4a65c_elementData rfl (by show some (va_rf (S.2.2.1 a0 1)) = _; rw [e3]; rfl) dJx4a65c_elementData_915e3_1 ?_
  refine lv_iload_n hx hb dJx4a65c_elementData_915e3_4 rfl (lv_at hl 1 rfl) ?_
  obtain ⟨z4, h⟩ := ckK_el h
  obtain ⟨y6, p5, e7, h⟩ := rdA_el h
  refine c_ald10 hC hP z4.1 z4.2 y6 e7 dJx4a65c_elementData_915e3_5 ?_
  cases h
  exact c_aret hC ⟨_, rfl⟩ hP hS rfl dJx4a65c_elementData_915e3_6

theorem dJx4a65c_get_915e3_0 : decode cJx4a65c_get_915e3 0 = .ok (.iload_n 1, 1) := by decide +kernel
theorem dJx4a65c_get_915e3_1 : decode cJx4a65c_get_915e3 1 = .ok (.aload_n 0, 1) := by decide +kernel
theorem dJx4a65c_get_915e3_2 : decode cJx4a65c_get_915e3 2 = .ok (.getfield 48, 3) := by decide +kernel
theorem dJx4a65c_get_915e3_5 : decode cJx4a65c_get_915e3 5 = .ok (.invokestatic 118, 3) := by decide +kernel
theorem dJx4a65c_get_915e3_8 : decode cJx4a65c_get_915e3 8 = .ok (.pop, 1) := by decide +kernel
theorem dJx4a65c_get_915e3_9 : decode cJx4a65c_get_915e3 9 = .ok (.aload_n 0, 1) := by decide +kernel
theorem dJx4a65c_get_915e3_10 : decode cJx4a65c_get_915e3 10 = .ok (.iload_n 1, 1) := by decide +kernel
theorem dJx4a65c_get_915e3_11 : decode cJx4a65c_get_915e3 11 = .ok (.invokevirtual 123, 3) := by decide +kernel
theorem dJx4a65c_get_915e3_14 : decode cJx4a65c_get_915e3 14 = .ok (.areturn, 1) := by decide +kernel
def f_Jx4a65c_get_915e3 (F : Nat) (S : CS) (D : CD) (a0 : Nat) (a1 : Int32) : Option Nat := ckK S a0 7 <| cal (f_J15_checkIndex_7cf53 F S D a1 (D.1 a0 2)) fun t3 => cal (f_Jx4a65c_elementData_915e3 F S D a0 a1) fun t5 => some t5
set_option maxRecDepth 100000 in
set_option maxHeartbeats 4000000 in
theorem m_Jx4a65c_get_915e3 (l : Launch) (G : cG) (F : Nat) (S : CS) (D : CD) (a0 : Nat) (a1 : Int32) (r : Nat) (h : f_Jx4a65c_get_915e3 F S D a0 a1 = some r) : cMA l yJx4a65c_get_915e3 vJx4a65c_get_915e3 ({ frames := 2, cells := 0, slots := 0, locals := 43 }) G S [.ref a0, .int a1] D D r := by
  refine cBodyA (cc := cJx4a65c_get_915e3) (maxL := 2) (ret := (some (.object "java/lang/Object"))) (own := RJx4a65c) (by decide) rfl rfl ?_
  intro sz p e s m below meth c hC hP
  have hC0 := hC
  obtain ⟨hx, hb, -, hts, hown, -, hml, -, -, -⟩ := hC0
  have hS : va_S (cA G S sz) s.heap s.heap [] := va_S.rf
  have hin_Jx4a65c : ∀ w ∈ wsJx4a65c0, w ∈ vJx4a65c_get_915e3 := fun w h => List.mem_cons_of_mem _ (hWC7 w h)
  have fl_Jx4a65c_size := hts _ (List.mem_cons_of_mem _ wc_1)
  refine m_entry (Nat.le_of_ble_eq_true rfl) (fun ls hl => ?_)
  have hl : lv_has ls 2 [(0, .ref a0), (1, .int a1)] := hl
  unfold f_Jx4a65c_get_915e3 at h
  refine lv_iload_n hx hb dJx4a65c_get_915e3_0 rfl (lv_at hl 1 rfl) ?_
  refine lv_aload_n hx hb dJx4a65c_get_915e3_1 rfl (lv_at hl 0 rfl) ?_
  obtain ⟨z1, h⟩ := ckK_el h
  refine c_get (C := RJx4a65c) (T := TJx4a65c) (N := 3) (ref := "java/util/ArrayList") (ci := 0) (v := .int (D.1 a0 2)) hC hin_Jx4a65c hP z1.1 (cE_7 z1.2) rfl 2 (by decide) fl_Jx4a65c_size rfl rfl dJx4a65c_get_915e3_2 ?_
  obtain ⟨t3, e2, h⟩ := cal_el h
  refine c_SI (As := [.int a1, .int (D.1 a0 2)]) (rest := []) hC hP hS (m_J15_checkIndex_7cf53 l G F S D a1 (D.1 a0 2) t3 e2) (va_cwS 2 hts (gWCS wc_17 wc_18 wc_19 wc_10) rfl rfl rfl (by decide +kernel) ⟨Nat.le_of_ble_eq_true rfl, Nat.le_of_ble_eq_true rfl⟩) rfl hl.1 rfl (Nat.le_of_ble_eq_true rfl) dJx4a65c_get_915e3_5 (fun H locs hP hS => ?_)
  refine lv_pop hx hb dJx4a65c_get_915e3_8 rfl ?_
  refine lv_aload_n hx hb dJx4a65c_get_915e3_9 rfl (lv_at hl 0 rfl) ?_
  refine lv_iload_n hx hb dJx4a65c_get_915e3_10 rfl (lv_at hl 1 rfl) ?_
  obtain ⟨t5, e4, h⟩ := cal_el h
  refine c_VA (As := [.int a1]) (rest := []) hC hP hS z1.1 (cE_7 z1.2) (C := RJx4a65c) (T := TJx4a65c) (N := 3) rfl (m_Jx4a65c_elementData_915e3 l G F S D a0 a1 t5 e4) (cwV 1 hts (gWC wc_20 wc_21 wc_22 wc_7 wc_14) rfl rfl rfl (by decide +kernel) ⟨Nat.le_of_ble_eq_true rfl, Nat.le_of_ble_eq_true rfl⟩) rfl hl.1 rfl (Nat.le_of_ble_eq_true rfl) dJx4a65c_get_915e3_11 (fun H locs hP hS => ?_)
  cases h
  exact c_aret hC ⟨_, rfl⟩ hP hS rfl dJx4a65c_get_915e3_14

theorem dX6_lineAt_0 : decode cX6_lineAt 0 = .ok (.iload_n 1, 1) := by decide +kernel
theorem dX6_lineAt_1 : decode cX6_lineAt 1 = .ok (.ifCond .lt 28, 3) := by decide +kernel
theorem dX6_lineAt_4 : decode cX6_lineAt 4 = .ok (.iload_n 1, 1) := by decide +kernel
theorem dX6_lineAt_5 : decode cX6_lineAt 5 = .ok (.aload_n 0, 1) := by decide +kernel
theorem dX6_lineAt_6 : decode cX6_lineAt 6 = .ok (.getfield 12, 3) := by decide +kernel
theorem dX6_lineAt_9 : decode cX6_lineAt 9 = .ok (.invokevirtual 75, 3) := by decide +kernel
theorem dX6_lineAt_12 : decode cX6_lineAt 12 = .ok (.if_icmp .ge 17, 3) := by decide +kernel
theorem dX6_lineAt_15 : decode cX6_lineAt 15 = .ok (.aload_n 0, 1) := by decide +kernel
theorem dX6_lineAt_16 : decode cX6_lineAt 16 = .ok (.getfield 12, 3) := by decide +kernel
theorem dX6_lineAt_19 : decode cX6_lineAt 19 = .ok (.iload_n 1, 1) := by decide +kernel
theorem dX6_lineAt_20 : decode cX6_lineAt 20 = .ok (.invokevirtual 172, 3) := by decide +kernel
theorem dX6_lineAt_23 : decode cX6_lineAt 23 = .ok (.checkcast 16, 3) := by decide +kernel
theorem dX6_lineAt_26 : decode cX6_lineAt 26 = .ok (.goto 7, 3) := by decide +kernel
theorem dX6_lineAt_29 : decode cX6_lineAt 29 = .ok (.aload_n 0, 1) := by decide +kernel
theorem dX6_lineAt_30 : decode cX6_lineAt 30 = .ok (.getfield 21, 3) := by decide +kernel
theorem dX6_lineAt_33 : decode cX6_lineAt 33 = .ok (.areturn, 1) := by decide +kernel
def f_X6_lineAt_b29 (F : Nat) (S : CS) (D : CD) (a0 : Nat) : Option Nat := ckK S a0 6 <| cal (S.2.2.1 a0 1) fun p2 => some p2
def f_X6_lineAt (F : Nat) (S : CS) (D : CD) (a0 : Nat) (a1 : Int32) : Option Nat := (if a1 < 0 then f_X6_lineAt_b29 F S D a0  else ckK S a0 6 <| cal (S.2.2.1 a0 0) fun p3 => ckK S p3 7 <| cal (f_Jx4a65c_size_8abf5 F S D p3) fun t7 => (if t7 ≤ a1 then f_X6_lineAt_b29 F S D a0  else cal (S.2.2.1 a0 0) fun p9 => ckK S p9 7 <| cal (f_Jx4a65c_get_915e3 F S D p9 a1) fun t13 => ckK S t13 4 <| some t13))
set_option maxRecDepth 100000 in
set_option maxHeartbeats 4000000 in
theorem m_X6_lineAt (l : Launch) (G : cG) (F : Nat) (S : CS) (D : CD) (a0 : Nat) (a1 : Int32) (r : Nat) (h : f_X6_lineAt F S D a0 a1 = some r) : cMA l yX6_lineAt vX6_lineAt ({ frames := 3, cells := 0, slots := 0, locals := 64 }) G S [.ref a0, .int a1] D D r := by
  refine cBodyA (cc := cX6_lineAt) (maxL := 2) (ret := (some (.object "SegmentMap$Segment"))) (own := RX6) (by decide) rfl rfl ?_
  intro sz p e s m below meth c hC hP
  have hC0 := hC
  obtain ⟨hx, hb, -, hts, hown, -, hml, -, -, -⟩ := hC0
  have hS : va_S (cA G S sz) s.heap s.heap [] := va_S.rf
  have hin_X6 : ∀ w ∈ wsX60, w ∈ vX6_lineAt := fun w h => List.mem_cons_of_mem _ (hWC6 w h)
  have fl_X6_lines := hts _ (List.mem_cons_of_mem _ wc_3)
  have fl_X6_noLine := hts _ (List.mem_cons_of_mem _ wc_25)
  have cl_X4 := hts _ (List.mem_cons_of_mem _ wc_24)
  have b29 : ∀ (H : Heap) (locs : List Loc) (ls : Array Slot), va_P G.1 vwCl (cW G S D) H → va_S (cA G S sz) s.heap H locs → lv_has ls 2 [(0, .ref a0)] → f_X6_lineAt_b29 F S D a0 = some r → W p l e (headSpec vX6_lineAt ({ frames := 3, cells := 0, slots := 0, locals := 64 })).room s m ([.ref a0, .int a1] : List Value).toArray below meth c H locs 0 0 (cQA below G S D sz ([.ref a0, .int a1] : List Value).toArray s r) (F0 m 29 ls []) := by
    intro H locs ls hP hS hl h
    unfold f_X6_lineAt_b29 at h
    refine lv_aload_n hx hb dX6_lineAt_29 rfl (lv_at hl 0 rfl) ?_
    obtain ⟨z1, h⟩ := ckK_el h
    obtain ⟨p2, e3, h⟩ := cal_el h
    refine c_get (C := RX6) (T := TX6) (N := 8) (ref := "SegmentMap") (ci := 7) (v := .ref p2) hC hin_X6 hP z1.1 (cE_6 z1.2) rfl 1 (by decide) fl_X6_noLine rfl (by show some (va_rf (S.2.2.1 a0 1)) = _; rw [e3]; rfl) dX6_lineAt_30 ?_
    cases h
    exact c_aret hC ⟨_, rfl⟩ hP hS rfl dX6_lineAt_33
  refine m_entry (Nat.le_of_ble_eq_true rfl) (fun ls hl => ?_)
  have hl : lv_has ls 2 [(0, .ref a0), (1, .int a1)] := hl
  unfold f_X6_lineAt at h
  refine lv_iload_n hx hb dX6_lineAt_0 rfl (lv_at hl 1 rfl) ?_
  refine lv_if_lt (tgt := 29) hx hb dX6_lineAt_1 (by decide) (fun u1 => ?_) (fun u1 => ?_)
  · have h := ite_t u1 h
    exact b29 _ _ _ hP hS (lv_sub hl [0] rfl) h
  · have h := ite_f u1 h
    refine lv_iload_n hx hb dX6_lineAt_4 rfl (lv_at hl 1 rfl) ?_
    refine lv_aload_n hx hb dX6_lineAt_5 rfl (lv_at hl 0 rfl) ?_
    obtain ⟨z2, h⟩ := ckK_el h
    obtain ⟨p3, e4, h⟩ := cal_el h
    refine c_get (C := RX6) (T := TX6) (N := 8) (ref := "SegmentMap") (ci := 7) (v := .ref p3) hC hin_X6 hP z2.1 (cE_6 z2.2) rfl 0 (by decide) fl_X6_lines rfl (by show some (va_rf (S.2.2.1 a0 0)) = _; rw [e4]; rfl) dX6_lineAt_6 ?_
    obtain ⟨z5, h⟩ := ckK_el h
    obtain ⟨t7, e6, h⟩ := cal_el h
    refine c_VI (As := []) (rest := [.int a1]) hC hP hS z5.1 (cE_7 z5.2) (C := RJx4a65c) (T := TJx4a65c) (N := 3) rfl (m_Jx4a65c_size_8abf5 l G F S D p3 t7 e6) (cwV 0 hts (gWC wc_4 wc_5 wc_6 wc_7 wc_0) rfl rfl rfl (by decide +kernel) ⟨Nat.le_of_ble_eq_true rfl, Nat.le_of_ble_eq_true rfl⟩) rfl hl.1 rfl (Nat.le_of_ble_eq_true rfl) dX6_lineAt_9 (fun H locs hP hS => ?_)
    refine lv_icmp_ge (tgt := 29) hx hb dX6_lineAt_12 (by decide) (fun u8 => ?_) (fun u8 => ?_)
    · have h := ite_t u8 h
      exact b29 _ _ _ hP hS (lv_sub hl [0] rfl) h
    · have h := ite_f u8 h
      refine lv_aload_n hx hb dX6_lineAt_15 rfl (lv_at hl 0 rfl) ?_
      obtain ⟨p9, e10, h⟩ := cal_el h
      refine c_get (C := RX6) (T := TX6) (N := 8) (ref := "SegmentMap") (ci := 7) (v := .ref p9) hC hin_X6 hP z2.1 (cE_6 z2.2) rfl 0 (by decide) fl_X6_lines rfl (by show some (va_rf (S.2.2.1 a0 0)) = _; rw [e10]; rfl) dX6_lineAt_16 ?_
      refine lv_iload_n hx hb dX6_lineAt_19 rfl (lv_at hl 1 rfl) ?_
      obtain ⟨z11, h⟩ := ckK_el h
      obtain ⟨t13, e12, h⟩ := cal_el h
      refine c_VA (As := [.int a1]) (rest := []) hC hP hS z11.1 (cE_7 z11.2) (C := RJx4a65c) (T := TJx4a65c) (N := 3) rfl (m_Jx4a65c_get_915e3 l G F S D p9 a1 t13 e12) (cwV 1 hts (gWC wc_26 wc_27 wc_28 wc_7 wc_16) rfl rfl rfl (by decide +kernel) ⟨Nat.le_of_ble_eq_true rfl, Nat.le_of_ble_eq_true rfl⟩) rfl hl.1 rfl (Nat.le_of_ble_eq_true rfl) dX6_lineAt_20 (fun H locs hP hS => ?_)
      obtain ⟨z14, h⟩ := ckK_el h
      refine c_cast (C := RX4) (T := TX4) (N := 6) (ci := 5) hC hP z14.1 (cE_4 z14.2) rfl cl_X4 dX6_lineAt_23 ?_
      refine lv_goto (tgt := 33) hx hb dX6_lineAt_26 (by decide) ?_
      cases h
      exact c_aret hC ⟨_, rfl⟩ hP hS rfl dX6_lineAt_33

theorem dX4_turn_0 : decode cX4_turn 0 = .ok (.aload_n 0, 1) := by decide +kernel
theorem dX4_turn_1 : decode cX4_turn 1 = .ok (.getfield 24, 3) := by decide +kernel
theorem dX4_turn_4 : decode cX4_turn 4 = .ok (.aload_n 1, 1) := by decide +kernel
theorem dX4_turn_5 : decode cX4_turn 5 = .ok (.getfield 28, 3) := by decide +kernel
theorem dX4_turn_8 : decode cX4_turn 8 = .ok (.lmul, 1) := by decide +kernel
theorem dX4_turn_9 : decode cX4_turn 9 = .ok (.aload_n 0, 1) := by decide +kernel
theorem dX4_turn_10 : decode cX4_turn 10 = .ok (.getfield 28, 3) := by decide +kernel
theorem dX4_turn_13 : decode cX4_turn 13 = .ok (.aload_n 1, 1) := by decide +kernel
theorem dX4_turn_14 : decode cX4_turn 14 = .ok (.getfield 24, 3) := by decide +kernel
theorem dX4_turn_17 : decode cX4_turn 17 = .ok (.lmul, 1) := by decide +kernel
theorem dX4_turn_18 : decode cX4_turn 18 = .ok (.lsub, 1) := by decide +kernel
theorem dX4_turn_19 : decode cX4_turn 19 = .ok (.lreturn, 1) := by decide +kernel
def f_X4_turn (F : Nat) (S : CS) (D : CD) (a0 : Nat) (a1 : Nat) : Option Int64 := ckK S a0 4 <| ckK S a1 4 <| some (((D.2.1 a0 4) * (D.2.1 a1 5)) - ((D.2.1 a0 5) * (D.2.1 a1 4)))
set_option maxRecDepth 100000 in
set_option maxHeartbeats 4000000 in
theorem m_X4_turn (l : Launch) (G : cG) (F : Nat) (S : CS) (D : CD) (a0 : Nat) (a1 : Nat) (r : Int64) (h : f_X4_turn F S D a0 a1 = some r) : cML l yX4_turn vX4_turn ({ frames := 0, cells := 0, slots := 0, locals := 0 }) G S [.ref a0, .ref a1] D D r := by
  refine cBodyL (cc := cX4_turn) (maxL := 2) (ret := (some .long)) (own := RX4) (by decide) rfl rfl ?_
  intro sz p e s m below meth c hC hP
  have hC0 := hC
  obtain ⟨hx, hb, -, hts, hown, -, hml, -, -, -⟩ := hC0
  have hS : va_S (cA G S sz) s.heap s.heap [] := va_S.rf
  have hin_X4 : ∀ w ∈ wsX40, w ∈ vX4_turn := fun w h => List.mem_cons_of_mem _ (hWC4 w h)
  have fl_X4_run := hts _ (List.mem_cons_of_mem _ wc_30)
  have fl_X4_rise := hts _ (List.mem_cons_of_mem _ wc_31)
  refine m_entry (Nat.le_of_ble_eq_true rfl) (fun ls hl => ?_)
  have hl : lv_has ls 2 [(0, .ref a0), (1, .ref a1)] := hl
  unfold f_X4_turn at h
  refine lv_aload_n hx hb dX4_turn_0 rfl (lv_at hl 0 rfl) ?_
  obtain ⟨z1, h⟩ := ckK_el h
  refine c_get (C := RX4) (T := TX4) (N := 6) (ref := "SegmentMap$Segment") (ci := 5) (v := .long (D.2.1 a0 4)) hC hin_X4 hP z1.1 (cE_4 z1.2) rfl 4 (by decide) fl_X4_run rfl rfl dX4_turn_1 ?_
  refine lv_aload_n hx hb dX4_turn_4 rfl (lv_at hl 1 rfl) ?_
  obtain ⟨z2, h⟩ := ckK_el h
  refine c_get (C := RX4) (T := TX4) (N := 6) (ref := "SegmentMap$Segment") (ci := 5) (v := .long (D.2.1 a1 5)) hC hin_X4 hP z2.1 (cE_4 z2.2) rfl 5 (by decide) fl_X4_rise rfl rfl dX4_turn_5 ?_
  refine lv_lmul hx hb dX4_turn_8 ?_
  refine lv_aload_n hx hb dX4_turn_9 rfl (lv_at hl 0 rfl) ?_
  refine c_get (C := RX4) (T := TX4) (N := 6) (ref := "SegmentMap$Segment") (ci := 5) (v := .long (D.2.1 a0 5)) hC hin_X4 hP z1.1 (cE_4 z1.2) rfl 5 (by decide) fl_X4_rise rfl rfl dX4_turn_10 ?_
  refine lv_aload_n hx hb dX4_turn_13 rfl (lv_at hl 1 rfl) ?_
  refine c_get (C := RX4) (T := TX4) (N := 6) (ref := "SegmentMap$Segment") (ci := 5) (v := .long (D.2.1 a1 4)) hC hin_X4 hP z2.1 (cE_4 z2.2) rfl 4 (by decide) fl_X4_run rfl rfl dX4_turn_14 ?_
  refine lv_lmul hx hb dX4_turn_17 ?_
  refine lv_lsub hx hb dX4_turn_18 ?_
  cases h
  exact c_lret hC hP hS rfl dX4_turn_19

theorem dX4_share_0 : decode cX4_share 0 = .ok (.aload_n 1, 1) := by decide +kernel
theorem dX4_share_1 : decode cX4_share 1 = .ok (.getfield 9, 3) := by decide +kernel
theorem dX4_share_4 : decode cX4_share 4 = .ok (.aload_n 0, 1) := by decide +kernel
theorem dX4_share_5 : decode cX4_share 5 = .ok (.getfield 9, 3) := by decide +kernel
theorem dX4_share_8 : decode cX4_share 8 = .ok (.isub, 1) := by decide +kernel
theorem dX4_share_9 : decode cX4_share 9 = .ok (.i2l, 1) := by decide +kernel
theorem dX4_share_10 : decode cX4_share 10 = .ok (.lstore_n 2, 1) := by decide +kernel
theorem dX4_share_11 : decode cX4_share 11 = .ok (.aload_n 1, 1) := by decide +kernel
theorem dX4_share_12 : decode cX4_share 12 = .ok (.getfield 15, 3) := by decide +kernel
theorem dX4_share_15 : decode cX4_share 15 = .ok (.aload_n 0, 1) := by decide +kernel
theorem dX4_share_16 : decode cX4_share 16 = .ok (.getfield 15, 3) := by decide +kernel
theorem dX4_share_19 : decode cX4_share 19 = .ok (.isub, 1) := by decide +kernel
theorem dX4_share_20 : decode cX4_share 20 = .ok (.i2l, 1) := by decide +kernel
theorem dX4_share_21 : decode cX4_share 21 = .ok (.lstore 4, 2) := by decide +kernel
theorem dX4_share_23 : decode cX4_share 23 = .ok (.lload_n 2, 1) := by decide +kernel
theorem dX4_share_24 : decode cX4_share 24 = .ok (.aload_n 1, 1) := by decide +kernel
theorem dX4_share_25 : decode cX4_share 25 = .ok (.getfield 28, 3) := by decide +kernel
theorem dX4_share_28 : decode cX4_share 28 = .ok (.lmul, 1) := by decide +kernel
theorem dX4_share_29 : decode cX4_share 29 = .ok (.lload 4, 2) := by decide +kernel
theorem dX4_share_31 : decode cX4_share 31 = .ok (.aload_n 1, 1) := by decide +kernel
theorem dX4_share_32 : decode cX4_share 32 = .ok (.getfield 24, 3) := by decide +kernel
theorem dX4_share_35 : decode cX4_share 35 = .ok (.lmul, 1) := by decide +kernel
theorem dX4_share_36 : decode cX4_share 36 = .ok (.lsub, 1) := by decide +kernel
theorem dX4_share_37 : decode cX4_share 37 = .ok (.lreturn, 1) := by decide +kernel
def f_X4_share (F : Nat) (S : CS) (D : CD) (a0 : Nat) (a1 : Nat) : Option Int64 := ckK S a1 4 <| ckK S a0 4 <| some (((((D.1 a1 0) - (D.1 a0 0)).toInt64) * (D.2.1 a1 5)) - ((((D.1 a1 1) - (D.1 a0 1)).toInt64) * (D.2.1 a1 4)))
set_option maxRecDepth 100000 in
set_option maxHeartbeats 4000000 in
theorem m_X4_share (l : Launch) (G : cG) (F : Nat) (S : CS) (D : CD) (a0 : Nat) (a1 : Nat) (r : Int64) (h : f_X4_share F S D a0 a1 = some r) : cML l yX4_share vX4_share ({ frames := 0, cells := 0, slots := 0, locals := 0 }) G S [.ref a0, .ref a1] D D r := by
  refine cBodyL (cc := cX4_share) (maxL := 6) (ret := (some .long)) (own := RX4) (by decide) rfl rfl ?_
  intro sz p e s m below meth c hC hP
  have hC0 := hC
  obtain ⟨hx, hb, -, hts, hown, -, hml, -, -, -⟩ := hC0
  have hS : va_S (cA G S sz) s.heap s.heap [] := va_S.rf
  have hin_X4 : ∀ w ∈ wsX40, w ∈ vX4_share := fun w h => List.mem_cons_of_mem _ (hWC4 w h)
  have fl_X4_startX := hts _ (List.mem_cons_of_mem _ wc_33)
  have fl_X4_startY := hts _ (List.mem_cons_of_mem _ wc_34)
  have fl_X4_rise := hts _ (List.mem_cons_of_mem _ wc_31)
  have fl_X4_run := hts _ (List.mem_cons_of_mem _ wc_30)
  refine m_entry (Nat.le_of_ble_eq_true rfl) (fun ls hl => ?_)
  have hl : lv_has ls 6 [(0, .ref a0), (1, .ref a1)] := hl
  unfold f_X4_share at h
  refine lv_aload_n hx hb dX4_share_0 rfl (lv_at hl 1 rfl) ?_
  obtain ⟨z1, h⟩ := ckK_el h
  refine c_get (C := RX4) (T := TX4) (N := 6) (ref := "SegmentMap$Segment") (ci := 5) (v := .int (D.1 a1 0)) hC hin_X4 hP z1.1 (cE_4 z1.2) rfl 0 (by decide) fl_X4_startX rfl rfl dX4_share_1 ?_
  refine lv_aload_n hx hb dX4_share_4 rfl (lv_at hl 0 rfl) ?_
  obtain ⟨z2, h⟩ := ckK_el h
  refine c_get (C := RX4) (T := TX4) (N := 6) (ref := "SegmentMap$Segment") (ci := 5) (v := .int (D.1 a0 0)) hC hin_X4 hP z2.1 (cE_4 z2.2) rfl 0 (by decide) fl_X4_startX rfl rfl dX4_share_5 ?_
  refine lv_isub hx hb dX4_share_8 ?_
  refine lv_i2l (v := ((D.1 a1 0) - (D.1 a0 0)).toInt64) hx hb dX4_share_9 rfl ?_
  refine lv_lstore_n (lv' := [(2, .long (((D.1 a1 0) - (D.1 a0 0)).toInt64)), (0, .ref a0), (1, .ref a1)]) hx hb dX4_share_10 rfl hl (by decide) rfl (fun ls hl => ?_)
  refine lv_aload_n hx hb dX4_share_11 rfl (lv_at hl 2 rfl) ?_
  refine c_get (C := RX4) (T := TX4) (N := 6) (ref := "SegmentMap$Segment") (ci := 5) (v := .int (D.1 a1 1)) hC hin_X4 hP z1.1 (cE_4 z1.2) rfl 1 (by decide) fl_X4_startY rfl rfl dX4_share_12 ?_
  refine lv_aload_n hx hb dX4_share_15 rfl (lv_at hl 1 rfl) ?_
  refine c_get (C := RX4) (T := TX4) (N := 6) (ref := "SegmentMap$Segment") (ci := 5) (v := .int (D.1 a0 1)) hC hin_X4 hP z2.1 (cE_4 z2.2) rfl 1 (by decide) fl_X4_startY rfl rfl dX4_share_16 ?_
  refine lv_isub hx hb dX4_share_19 ?_
  refine lv_i2l (v := ((D.1 a1 1) - (D.1 a0 1)).toInt64) hx hb dX4_share_20 rfl ?_
  refine lv_lstore (lv' := [(4, .long (((D.1 a1 1) - (D.1 a0 1)).toInt64)), (2, .long (((D.1 a1 0) - (D.1 a0 0)).toInt64)), (0, .ref a0), (1, .ref a1)]) hx hb dX4_share_21 hl (by decide) rfl (fun ls hl => ?_)
  refine lv_lload_n hx hb dX4_share_23 rfl (lv_at hl 1 rfl) ?_
  refine lv_aload_n hx hb dX4_share_24 rfl (lv_at hl 3 rfl) ?_
  refine c_get (C := RX4) (T := TX4) (N := 6) (ref := "SegmentMap$Segment") (ci := 5) (v := .long (D.2.1 a1 5)) hC hin_X4 hP z1.1 (cE_4 z1.2) rfl 5 (by decide) fl_X4_rise rfl rfl dX4_share_25 ?_
  refine lv_lmul hx hb dX4_share_28 ?_
  refine lv_lload hx hb dX4_share_29 (lv_at hl 0 rfl) ?_
  refine lv_aload_n hx hb dX4_share_31 rfl (lv_at hl 3 rfl) ?_
  refine c_get (C := RX4) (T := TX4) (N := 6) (ref := "SegmentMap$Segment") (ci := 5) (v := .long (D.2.1 a1 4)) hC hin_X4 hP z1.1 (cE_4 z1.2) rfl 4 (by decide) fl_X4_run rfl rfl dX4_share_32 ?_
  refine lv_lmul hx hb dX4_share_35 ?_
  refine lv_lsub hx hb dX4_share_36 ?_
  cases h
  exact c_lret hC hP hS rfl dX4_share_37

theorem dX4_rank_0 : decode cX4_rank 0 = .ok (.iload_n 0, 1) := by decide +kernel
theorem dX4_rank_1 : decode cX4_rank 1 = .ok (.bipush 101, 2) := by decide +kernel
theorem dX4_rank_3 : decode cX4_rank 3 = .ok (.imul, 1) := by decide +kernel
theorem dX4_rank_4 : decode cX4_rank 4 = .ok (.iload_n 1, 1) := by decide +kernel
theorem dX4_rank_5 : decode cX4_rank 5 = .ok (.iadd, 1) := by decide +kernel
theorem dX4_rank_6 : decode cX4_rank 6 = .ok (.ireturn, 1) := by decide +kernel
def f_X4_rank (F : Nat) (S : CS) (D : CD) (a1 : Int32) (a2 : Int32) : Option Int32 := some ((a1 * 101) + a2)
set_option maxRecDepth 100000 in
set_option maxHeartbeats 4000000 in
theorem m_X4_rank (l : Launch) (G : cG) (F : Nat) (S : CS) (D : CD) (a1 : Int32) (a2 : Int32) (r : Int32) (h : f_X4_rank F S D a1 a2 = some r) : cMI l yX4_rank vX4_rank ({ frames := 0, cells := 0, slots := 0, locals := 0 }) G S [.int a1, .int a2] D D r := by
  refine cBodyI (cc := cX4_rank) (maxL := 2) (ret := (some .int)) (own := RX4) (by decide) rfl rfl ?_
  intro sz p e s m below meth c hC hP
  have hC0 := hC
  obtain ⟨hx, hb, -, hts, hown, -, hml, -, -, -⟩ := hC0
  have hS : va_S (cA G S sz) s.heap s.heap [] := va_S.rf
  refine m_entry (Nat.le_of_ble_eq_true rfl) (fun ls hl => ?_)
  have hl : lv_has ls 2 [(0, .int a1), (1, .int a2)] := hl
  unfold f_X4_rank at h
  refine lv_iload_n hx hb dX4_rank_0 rfl (lv_at hl 0 rfl) ?_
  refine lv_bipush (v := 101) hx hb dX4_rank_1 (by decide) ?_
  refine lv_imul hx hb dX4_rank_3 ?_
  refine lv_iload_n hx hb dX4_rank_4 rfl (lv_at hl 1 rfl) ?_
  refine lv_iadd hx hb dX4_rank_5 ?_
  cases h
  exact c_iret hC hP hS rfl dX4_rank_6

theorem dX4_commonStretch_0 : decode cX4_commonStretch 0 = .ok (.aload_n 0, 1) := by decide +kernel
theorem dX4_commonStretch_1 : decode cX4_commonStretch 1 = .ok (.getfield 18, 3) := by decide +kernel
theorem dX4_commonStretch_4 : decode cX4_commonStretch 4 = .ok (.aload_n 0, 1) := by decide +kernel
theorem dX4_commonStretch_5 : decode cX4_commonStretch 5 = .ok (.getfield 21, 3) := by decide +kernel
theorem dX4_commonStretch_8 : decode cX4_commonStretch 8 = .ok (.invokestatic 52, 3) := by decide +kernel
theorem dX4_commonStretch_11 : decode cX4_commonStretch 11 = .ok (.aload_n 1, 1) := by decide +kernel
theorem dX4_commonStretch_12 : decode cX4_commonStretch 12 = .ok (.getfield 18, 3) := by decide +kernel
theorem dX4_commonStretch_15 : decode cX4_commonStretch 15 = .ok (.aload_n 1, 1) := by decide +kernel
theorem dX4_commonStretch_16 : decode cX4_commonStretch 16 = .ok (.getfield 21, 3) := by decide +kernel
theorem dX4_commonStretch_19 : decode cX4_commonStretch 19 = .ok (.invokestatic 52, 3) := by decide +kernel
theorem dX4_commonStretch_22 : decode cX4_commonStretch 22 = .ok (.invokestatic 56, 3) := by decide +kernel
theorem dX4_commonStretch_25 : decode cX4_commonStretch 25 = .ok (.istore_n 2, 1) := by decide +kernel
theorem dX4_commonStretch_26 : decode cX4_commonStretch 26 = .ok (.aload_n 0, 1) := by decide +kernel
theorem dX4_commonStretch_27 : decode cX4_commonStretch 27 = .ok (.getfield 9, 3) := by decide +kernel
theorem dX4_commonStretch_30 : decode cX4_commonStretch 30 = .ok (.aload_n 0, 1) := by decide +kernel
theorem dX4_commonStretch_31 : decode cX4_commonStretch 31 = .ok (.getfield 15, 3) := by decide +kernel
theorem dX4_commonStretch_34 : decode cX4_commonStretch 34 = .ok (.invokestatic 52, 3) := by decide +kernel
theorem dX4_commonStretch_37 : decode cX4_commonStretch 37 = .ok (.aload_n 1, 1) := by decide +kernel
theorem dX4_commonStretch_38 : decode cX4_commonStretch 38 = .ok (.getfield 9, 3) := by decide +kernel
theorem dX4_commonStretch_41 : decode cX4_commonStretch 41 = .ok (.aload_n 1, 1) := by decide +kernel
theorem dX4_commonStretch_42 : decode cX4_commonStretch 42 = .ok (.getfield 15, 3) := by decide +kernel
theorem dX4_commonStretch_45 : decode cX4_commonStretch 45 = .ok (.invokestatic 52, 3) := by decide +kernel
theorem dX4_commonStretch_48 : decode cX4_commonStretch 48 = .ok (.invokestatic 61, 3) := by decide +kernel
theorem dX4_commonStretch_51 : decode cX4_commonStretch 51 = .ok (.istore_n 3, 1) := by decide +kernel
theorem dX4_commonStretch_52 : decode cX4_commonStretch 52 = .ok (.iload_n 2, 1) := by decide +kernel
theorem dX4_commonStretch_53 : decode cX4_commonStretch 53 = .ok (.iload_n 3, 1) := by decide +kernel
theorem dX4_commonStretch_54 : decode cX4_commonStretch 54 = .ok (.isub, 1) := by decide +kernel
theorem dX4_commonStretch_55 : decode cX4_commonStretch 55 = .ok (.ireturn, 1) := by decide +kernel
def f_X4_commonStretch (F : Nat) (S : CS) (D : CD) (a0 : Nat) (a1 : Nat) : Option Int32 := ckK S a0 4 <| cal (f_X4_rank F S D (D.1 a0 2) (D.1 a0 3)) fun t3 => ckK S a1 4 <| cal (f_X4_rank F S D (D.1 a1 2) (D.1 a1 3)) fun t6 => cal (f_X4_rank F S D (D.1 a0 0) (D.1 a0 1)) fun t8 => cal (f_X4_rank F S D (D.1 a1 0) (D.1 a1 1)) fun t10 => some ((if t6 < t3 then t6 else t3) - (if t8 < t10 then t10 else t8))
set_option maxRecDepth 100000 in
set_option maxHeartbeats 4000000 in
theorem m_X4_commonStretch (l : Launch) (G : cG) (F : Nat) (S : CS) (D : CD) (a0 : Nat) (a1 : Nat) (r : Int32) (h : f_X4_commonStretch F S D a0 a1 = some r) : cMI l yX4_commonStretch vX4_commonStretch ({ frames := 1, cells := 0, slots := 0, locals := 21 }) G S [.ref a0, .ref a1] D D r := by
  refine cBodyI (cc := cX4_commonStretch) (maxL := 4) (ret := (some .int)) (own := RX4) (by decide) rfl rfl ?_
  intro sz p e s m below meth c hC hP
  have hC0 := hC
  obtain ⟨hx, hb, -, hts, hown, -, hml, -, -, -⟩ := hC0
  have hS : va_S (cA G S sz) s.heap s.heap [] := va_S.rf
  have hin_X4 : ∀ w ∈ wsX40, w ∈ vX4_commonStretch := fun w h => List.mem_cons_of_mem _ (hWC4 w h)
  have fl_X4_endX := hts _ (List.mem_cons_of_mem _ wc_37)
  have fl_X4_endY := hts _ (List.mem_cons_of_mem _ wc_38)
  have fl_X4_startX := hts _ (List.mem_cons_of_mem _ wc_33)
  have fl_X4_startY := hts _ (List.mem_cons_of_mem _ wc_34)
  refine m_entry (Nat.le_of_ble_eq_true rfl) (fun ls hl => ?_)
  have hl : lv_has ls 4 [(0, .ref a0), (1, .ref a1)] := hl
  unfold f_X4_commonStretch at h
  refine lv_aload_n hx hb dX4_commonStretch_0 rfl (lv_at hl 0 rfl) ?_
  obtain ⟨z1, h⟩ := ckK_el h
  refine c_get (C := RX4) (T := TX4) (N := 6) (ref := "SegmentMap$Segment") (ci := 5) (v := .int (D.1 a0 2)) hC hin_X4 hP z1.1 (cE_4 z1.2) rfl 2 (by decide) fl_X4_endX rfl rfl dX4_commonStretch_1 ?_
  refine lv_aload_n hx hb dX4_commonStretch_4 rfl (lv_at hl 0 rfl) ?_
  refine c_get (C := RX4) (T := TX4) (N := 6) (ref := "SegmentMap$Segment") (ci := 5) (v := .int (D.1 a0 3)) hC hin_X4 hP z1.1 (cE_4 z1.2) rfl 3 (by decide) fl_X4_endY rfl rfl dX4_commonStretch_5 ?_
  obtain ⟨t3, e2, h⟩ := cal_el h
  refine c_SI (As := [.int (D.1 a0 2), .int (D.1 a0 3)]) (rest := []) hC hP hS (m_X4_rank l G F S D (D.1 a0 2) (D.1 a0 3) t3 e2) (va_cwS 2 hts (gWCS wc_46 wc_47 wc_48 wc_35) rfl rfl rfl (by decide +kernel) ⟨Nat.le_of_ble_eq_true rfl, Nat.le_of_ble_eq_true rfl⟩) rfl hl.1 rfl (Nat.le_of_ble_eq_true rfl) dX4_commonStretch_8 (fun H locs hP hS => ?_)
  refine lv_aload_n hx hb dX4_commonStretch_11 rfl (lv_at hl 1 rfl) ?_
  obtain ⟨z4, h⟩ := ckK_el h
  refine c_get (C := RX4) (T := TX4) (N := 6) (ref := "SegmentMap$Segment") (ci := 5) (v := .int (D.1 a1 2)) hC hin_X4 hP z4.1 (cE_4 z4.2) rfl 2 (by decide) fl_X4_endX rfl rfl dX4_commonStretch_12 ?_
  refine lv_aload_n hx hb dX4_commonStretch_15 rfl (lv_at hl 1 rfl) ?_
  refine c_get (C := RX4) (T := TX4) (N := 6) (ref := "SegmentMap$Segment") (ci := 5) (v := .int (D.1 a1 3)) hC hin_X4 hP z4.1 (cE_4 z4.2) rfl 3 (by decide) fl_X4_endY rfl rfl dX4_commonStretch_16 ?_
  obtain ⟨t6, e5, h⟩ := cal_el h
  refine c_SI (As := [.int (D.1 a1 2), .int (D.1 a1 3)]) (rest := [.int t3]) hC hP hS (m_X4_rank l G F S D (D.1 a1 2) (D.1 a1 3) t6 e5) (va_cwS 2 hts (gWCS wc_46 wc_47 wc_48 wc_35) rfl rfl rfl (by decide +kernel) ⟨Nat.le_of_ble_eq_true rfl, Nat.le_of_ble_eq_true rfl⟩) rfl hl.1 rfl (Nat.le_of_ble_eq_true rfl) dX4_commonStretch_19 (fun H locs hP hS => ?_)
  refine va_mmin (own := RX4) hx hb (hml.trans hl.1.symm) hown (hts _ (List.mem_cons_of_mem _ wc_39)) (hts _ (List.mem_cons_of_mem _ wc_40)) (hts _ (List.mem_cons_of_mem _ wc_41)) (hts _ (List.mem_cons_of_mem _ wc_42)) (Nat.le_of_ble_eq_true rfl) (Nat.le_of_ble_eq_true rfl) (Nat.zero_le _) (Nat.zero_le _) dX4_commonStretch_22 ?_
  refine lv_istore_n (lv' := [(2, .int (if t6 < t3 then t6 else t3)), (0, .ref a0), (1, .ref a1)]) hx hb dX4_commonStretch_25 rfl hl (by decide) rfl (fun ls hl => ?_)
  refine lv_aload_n hx hb dX4_commonStretch_26 rfl (lv_at hl 1 rfl) ?_
  refine c_get (C := RX4) (T := TX4) (N := 6) (ref := "SegmentMap$Segment") (ci := 5) (v := .int (D.1 a0 0)) hC hin_X4 hP z1.1 (cE_4 z1.2) rfl 0 (by decide) fl_X4_startX rfl rfl dX4_commonStretch_27 ?_
  refine lv_aload_n hx hb dX4_commonStretch_30 rfl (lv_at hl 1 rfl) ?_
  refine c_get (C := RX4) (T := TX4) (N := 6) (ref := "SegmentMap$Segment") (ci := 5) (v := .int (D.1 a0 1)) hC hin_X4 hP z1.1 (cE_4 z1.2) rfl 1 (by decide) fl_X4_startY rfl rfl dX4_commonStretch_31 ?_
  obtain ⟨t8, e7, h⟩ := cal_el h
  refine c_SI (As := [.int (D.1 a0 0), .int (D.1 a0 1)]) (rest := []) hC hP hS (m_X4_rank l G F S D (D.1 a0 0) (D.1 a0 1) t8 e7) (va_cwS 2 hts (gWCS wc_46 wc_47 wc_48 wc_35) rfl rfl rfl (by decide +kernel) ⟨Nat.le_of_ble_eq_true rfl, Nat.le_of_ble_eq_true rfl⟩) rfl hl.1 rfl (Nat.le_of_ble_eq_true rfl) dX4_commonStretch_34 (fun H locs hP hS => ?_)
  refine lv_aload_n hx hb dX4_commonStretch_37 rfl (lv_at hl 2 rfl) ?_
  refine c_get (C := RX4) (T := TX4) (N := 6) (ref := "SegmentMap$Segment") (ci := 5) (v := .int (D.1 a1 0)) hC hin_X4 hP z4.1 (cE_4 z4.2) rfl 0 (by decide) fl_X4_startX rfl rfl dX4_commonStretch_38 ?_
  refine lv_aload_n hx hb dX4_commonStretch_41 rfl (lv_at hl 2 rfl) ?_
  refine c_get (C := RX4) (T := TX4) (N := 6) (ref := "SegmentMap$Segment") (ci := 5) (v := .int (D.1 a1 1)) hC hin_X4 hP z4.1 (cE_4 z4.2) rfl 1 (by decide) fl_X4_startY rfl rfl dX4_commonStretch_42 ?_
  obtain ⟨t10, e9, h⟩ := cal_el h
  refine c_SI (As := [.int (D.1 a1 0), .int (D.1 a1 1)]) (rest := [.int t8]) hC hP hS (m_X4_rank l G F S D (D.1 a1 0) (D.1 a1 1) t10 e9) (va_cwS 2 hts (gWCS wc_46 wc_47 wc_48 wc_35) rfl rfl rfl (by decide +kernel) ⟨Nat.le_of_ble_eq_true rfl, Nat.le_of_ble_eq_true rfl⟩) rfl hl.1 rfl (Nat.le_of_ble_eq_true rfl) dX4_commonStretch_45 (fun H locs hP hS => ?_)
  refine va_mmax (own := RX4) hx hb (hml.trans hl.1.symm) hown (hts _ (List.mem_cons_of_mem _ wc_43)) (hts _ (List.mem_cons_of_mem _ wc_44)) (hts _ (List.mem_cons_of_mem _ wc_41)) (hts _ (List.mem_cons_of_mem _ wc_45)) (Nat.le_of_ble_eq_true rfl) (Nat.le_of_ble_eq_true rfl) (Nat.zero_le _) (Nat.zero_le _) dX4_commonStretch_48 ?_
  refine lv_istore_n (lv' := [(3, .int (if t8 < t10 then t10 else t8)), (2, .int (if t6 < t3 then t6 else t3)), (0, .ref a0), (1, .ref a1)]) hx hb dX4_commonStretch_51 rfl hl (by decide) rfl (fun ls hl => ?_)
  refine lv_iload_n hx hb dX4_commonStretch_52 rfl (lv_at hl 1 rfl) ?_
  refine lv_iload_n hx hb dX4_commonStretch_53 rfl (lv_at hl 0 rfl) ?_
  refine lv_isub hx hb dX4_commonStretch_54 ?_
  cases h
  exact c_iret hC hP hS rfl dX4_commonStretch_55

theorem dX4_isPart_0 : decode cX4_isPart 0 = .ok (.lload_n 2, 1) := by decide +kernel
theorem dX4_isPart_1 : decode cX4_isPart 1 = .ok (.lconst 0, 1) := by decide +kernel
theorem dX4_isPart_2 : decode cX4_isPart 2 = .ok (.lcmp, 1) := by decide +kernel
theorem dX4_isPart_3 : decode cX4_isPart 3 = .ok (.ifCond .le 23, 3) := by decide +kernel
theorem dX4_isPart_6 : decode cX4_isPart 6 = .ok (.lload_n 0, 1) := by decide +kernel
theorem dX4_isPart_7 : decode cX4_isPart 7 = .ok (.lconst 0, 1) := by decide +kernel
theorem dX4_isPart_8 : decode cX4_isPart 8 = .ok (.lcmp, 1) := by decide +kernel
theorem dX4_isPart_9 : decode cX4_isPart 9 = .ok (.ifCond .lt 13, 3) := by decide +kernel
theorem dX4_isPart_12 : decode cX4_isPart 12 = .ok (.lload_n 0, 1) := by decide +kernel
theorem dX4_isPart_13 : decode cX4_isPart 13 = .ok (.lload_n 2, 1) := by decide +kernel
theorem dX4_isPart_14 : decode cX4_isPart 14 = .ok (.lcmp, 1) := by decide +kernel
theorem dX4_isPart_15 : decode cX4_isPart 15 = .ok (.ifCond .gt 7, 3) := by decide +kernel
theorem dX4_isPart_18 : decode cX4_isPart 18 = .ok (.iconst 1, 1) := by decide +kernel
theorem dX4_isPart_19 : decode cX4_isPart 19 = .ok (.goto 24, 3) := by decide +kernel
theorem dX4_isPart_22 : decode cX4_isPart 22 = .ok (.iconst 0, 1) := by decide +kernel
theorem dX4_isPart_23 : decode cX4_isPart 23 = .ok (.goto 20, 3) := by decide +kernel
theorem dX4_isPart_26 : decode cX4_isPart 26 = .ok (.lload_n 0, 1) := by decide +kernel
theorem dX4_isPart_27 : decode cX4_isPart 27 = .ok (.lconst 0, 1) := by decide +kernel
theorem dX4_isPart_28 : decode cX4_isPart 28 = .ok (.lcmp, 1) := by decide +kernel
theorem dX4_isPart_29 : decode cX4_isPart 29 = .ok (.ifCond .gt 13, 3) := by decide +kernel
theorem dX4_isPart_32 : decode cX4_isPart 32 = .ok (.lload_n 0, 1) := by decide +kernel
theorem dX4_isPart_33 : decode cX4_isPart 33 = .ok (.lload_n 2, 1) := by decide +kernel
theorem dX4_isPart_34 : decode cX4_isPart 34 = .ok (.lcmp, 1) := by decide +kernel
theorem dX4_isPart_35 : decode cX4_isPart 35 = .ok (.ifCond .lt 7, 3) := by decide +kernel
theorem dX4_isPart_38 : decode cX4_isPart 38 = .ok (.iconst 1, 1) := by decide +kernel
theorem dX4_isPart_39 : decode cX4_isPart 39 = .ok (.goto 4, 3) := by decide +kernel
theorem dX4_isPart_42 : decode cX4_isPart 42 = .ok (.iconst 0, 1) := by decide +kernel
theorem dX4_isPart_43 : decode cX4_isPart 43 = .ok (.ireturn, 1) := by decide +kernel
def f_X4_isPart (F : Nat) (S : CS) (D : CD) (a1 : Int64) (a2 : Int64) : Option Int32 := (if (lg_cmp a2 0) ≤ 0 then (if 0 < (lg_cmp a1 0) then okB 0 (some 0) else (if (lg_cmp a1 a2) < 0 then okB 0 (some 0) else okB 1 (some 1))) else (if (lg_cmp a1 0) < 0 then okB 0 (some 0) else (if 0 < (lg_cmp a1 a2) then okB 0 (some 0) else okB 1 (some 1))))
set_option maxRecDepth 100000 in
set_option maxHeartbeats 4000000 in
theorem m_X4_isPart (l : Launch) (G : cG) (F : Nat) (S : CS) (D : CD) (a1 : Int64) (a2 : Int64) (r : Int32) (h : f_X4_isPart F S D a1 a2 = some r) : cMI l yX4_isPart vX4_isPart ({ frames := 0, cells := 0, slots := 0, locals := 0 }) G S [.long a1, .long a2] D D r := by
  refine cBodyI (cc := cX4_isPart) (maxL := 4) (ret := (some .boolean)) (own := RX4) (by decide) rfl rfl ?_
  intro sz p e s m below meth c hC hP
  have hC0 := hC
  obtain ⟨hx, hb, -, hts, hown, -, hml, -, -, -⟩ := hC0
  have hS : va_S (cA G S sz) s.heap s.heap [] := va_S.rf
  refine m_entry (Nat.le_of_ble_eq_true rfl) (fun ls hl => ?_)
  have hl : lv_has ls 4 [(0, .long a1), (2, .long a2)] := hl
  unfold f_X4_isPart at h
  refine lv_lload_n hx hb dX4_isPart_0 rfl (lv_at hl 1 rfl) ?_
  refine lv_lconst (v := 0) hx hb dX4_isPart_1 (by decide) ?_
  refine W.lcmp hx hb dX4_isPart_2 ?_
  refine lv_if_le (tgt := 26) hx hb dX4_isPart_3 (by decide) (fun u1 => ?_) (fun u1 => ?_)
  · have h := ite_t u1 h
    refine lv_lload_n hx hb dX4_isPart_26 rfl (lv_at hl 0 rfl) ?_
    refine lv_lconst (v := 0) hx hb dX4_isPart_27 (by decide) ?_
    refine W.lcmp hx hb dX4_isPart_28 ?_
    refine lv_if_gt (tgt := 42) hx hb dX4_isPart_29 (by decide) (fun u2 => ?_) (fun u2 => ?_)
    · have h := ite_t u2 h
      refine lv_iconst (v := 0) hx hb dX4_isPart_42 (by decide) ?_
      obtain ⟨z3, h⟩ := okB_el h
      cases h
      exact c_zret hC hP hS z3 rfl dX4_isPart_43
    · have h := ite_f u2 h
      refine lv_lload_n hx hb dX4_isPart_32 rfl (lv_at hl 0 rfl) ?_
      refine lv_lload_n hx hb dX4_isPart_33 rfl (lv_at hl 1 rfl) ?_
      refine W.lcmp hx hb dX4_isPart_34 ?_
      refine lv_if_lt (tgt := 42) hx hb dX4_isPart_35 (by decide) (fun u4 => ?_) (fun u4 => ?_)
      · have h := ite_t u4 h
        refine lv_iconst (v := 0) hx hb dX4_isPart_42 (by decide) ?_
        obtain ⟨z5, h⟩ := okB_el h
        cases h
        exact c_zret hC hP hS z5 rfl dX4_isPart_43
      · have h := ite_f u4 h
        refine lv_iconst (v := 1) hx hb dX4_isPart_38 (by decide) ?_
        refine lv_goto (tgt := 43) hx hb dX4_isPart_39 (by decide) ?_
        obtain ⟨z6, h⟩ := okB_el h
        cases h
        exact c_zret hC hP hS z6 rfl dX4_isPart_43
  · have h := ite_f u1 h
    refine lv_lload_n hx hb dX4_isPart_6 rfl (lv_at hl 0 rfl) ?_
    refine lv_lconst (v := 0) hx hb dX4_isPart_7 (by decide) ?_
    refine W.lcmp hx hb dX4_isPart_8 ?_
    refine lv_if_lt (tgt := 22) hx hb dX4_isPart_9 (by decide) (fun u7 => ?_) (fun u7 => ?_)
    · have h := ite_t u7 h
      refine lv_iconst (v := 0) hx hb dX4_isPart_22 (by decide) ?_
      refine lv_goto (tgt := 43) hx hb dX4_isPart_23 (by decide) ?_
      obtain ⟨z8, h⟩ := okB_el h
      cases h
      exact c_zret hC hP hS z8 rfl dX4_isPart_43
    · have h := ite_f u7 h
      refine lv_lload_n hx hb dX4_isPart_12 rfl (lv_at hl 0 rfl) ?_
      refine lv_lload_n hx hb dX4_isPart_13 rfl (lv_at hl 1 rfl) ?_
      refine W.lcmp hx hb dX4_isPart_14 ?_
      refine lv_if_gt (tgt := 22) hx hb dX4_isPart_15 (by decide) (fun u9 => ?_) (fun u9 => ?_)
      · have h := ite_t u9 h
        refine lv_iconst (v := 0) hx hb dX4_isPart_22 (by decide) ?_
        refine lv_goto (tgt := 43) hx hb dX4_isPart_23 (by decide) ?_
        obtain ⟨z10, h⟩ := okB_el h
        cases h
        exact c_zret hC hP hS z10 rfl dX4_isPart_43
      · have h := ite_f u9 h
        refine lv_iconst (v := 1) hx hb dX4_isPart_18 (by decide) ?_
        refine lv_goto (tgt := 43) hx hb dX4_isPart_19 (by decide) ?_
        obtain ⟨z11, h⟩ := okB_el h
        cases h
        exact c_zret hC hP hS z11 rfl dX4_isPart_43

theorem dX4_touches_0 : decode cX4_touches 0 = .ok (.aload_n 0, 1) := by decide +kernel
theorem dX4_touches_1 : decode cX4_touches 1 = .ok (.aload_n 1, 1) := by decide +kernel
theorem dX4_touches_2 : decode cX4_touches 2 = .ok (.invokevirtual 31, 3) := by decide +kernel
theorem dX4_touches_5 : decode cX4_touches 5 = .ok (.lstore_n 2, 1) := by decide +kernel
theorem dX4_touches_6 : decode cX4_touches 6 = .ok (.lload_n 2, 1) := by decide +kernel
theorem dX4_touches_7 : decode cX4_touches 7 = .ok (.lconst 0, 1) := by decide +kernel
theorem dX4_touches_8 : decode cX4_touches 8 = .ok (.lcmp, 1) := by decide +kernel
theorem dX4_touches_9 : decode cX4_touches 9 = .ok (.ifCond .ne 27, 3) := by decide +kernel
theorem dX4_touches_12 : decode cX4_touches 12 = .ok (.aload_n 0, 1) := by decide +kernel
theorem dX4_touches_13 : decode cX4_touches 13 = .ok (.aload_n 1, 1) := by decide +kernel
theorem dX4_touches_14 : decode cX4_touches 14 = .ok (.invokevirtual 41, 3) := by decide +kernel
theorem dX4_touches_17 : decode cX4_touches 17 = .ok (.lconst 0, 1) := by decide +kernel
theorem dX4_touches_18 : decode cX4_touches 18 = .ok (.lcmp, 1) := by decide +kernel
theorem dX4_touches_19 : decode cX4_touches 19 = .ok (.ifCond .ne 15, 3) := by decide +kernel
theorem dX4_touches_22 : decode cX4_touches 22 = .ok (.aload_n 0, 1) := by decide +kernel
theorem dX4_touches_23 : decode cX4_touches 23 = .ok (.aload_n 1, 1) := by decide +kernel
theorem dX4_touches_24 : decode cX4_touches 24 = .ok (.invokevirtual 44, 3) := by decide +kernel
theorem dX4_touches_27 : decode cX4_touches 27 = .ok (.ifCond .lt 7, 3) := by decide +kernel
theorem dX4_touches_30 : decode cX4_touches 30 = .ok (.iconst 1, 1) := by decide +kernel
theorem dX4_touches_31 : decode cX4_touches 31 = .ok (.goto 4, 3) := by decide +kernel
theorem dX4_touches_34 : decode cX4_touches 34 = .ok (.iconst 0, 1) := by decide +kernel
theorem dX4_touches_35 : decode cX4_touches 35 = .ok (.ireturn, 1) := by decide +kernel
theorem dX4_touches_36 : decode cX4_touches 36 = .ok (.aload_n 0, 1) := by decide +kernel
theorem dX4_touches_37 : decode cX4_touches 37 = .ok (.aload_n 1, 1) := by decide +kernel
theorem dX4_touches_38 : decode cX4_touches 38 = .ok (.invokevirtual 41, 3) := by decide +kernel
theorem dX4_touches_41 : decode cX4_touches 41 = .ok (.lload_n 2, 1) := by decide +kernel
theorem dX4_touches_42 : decode cX4_touches 42 = .ok (.invokestatic 48, 3) := by decide +kernel
theorem dX4_touches_45 : decode cX4_touches 45 = .ok (.ifCond .eq 20, 3) := by decide +kernel
theorem dX4_touches_48 : decode cX4_touches 48 = .ok (.aload_n 1, 1) := by decide +kernel
theorem dX4_touches_49 : decode cX4_touches 49 = .ok (.aload_n 0, 1) := by decide +kernel
theorem dX4_touches_50 : decode cX4_touches 50 = .ok (.invokevirtual 41, 3) := by decide +kernel
theorem dX4_touches_53 : decode cX4_touches 53 = .ok (.lload_n 2, 1) := by decide +kernel
theorem dX4_touches_54 : decode cX4_touches 54 = .ok (.lneg, 1) := by decide +kernel
theorem dX4_touches_55 : decode cX4_touches 55 = .ok (.invokestatic 48, 3) := by decide +kernel
theorem dX4_touches_58 : decode cX4_touches 58 = .ok (.ifCond .eq 7, 3) := by decide +kernel
theorem dX4_touches_61 : decode cX4_touches 61 = .ok (.iconst 1, 1) := by decide +kernel
theorem dX4_touches_62 : decode cX4_touches 62 = .ok (.goto 4, 3) := by decide +kernel
theorem dX4_touches_65 : decode cX4_touches 65 = .ok (.iconst 0, 1) := by decide +kernel
theorem dX4_touches_66 : decode cX4_touches 66 = .ok (.ireturn, 1) := by decide +kernel
def f_X4_touches (F : Nat) (S : CS) (D : CD) (a0 : Nat) (a1 : Nat) : Option Int32 := ckK S a0 4 <| cal (f_X4_turn F S D a0 a1) fun t3 => (if (lg_cmp t3 0) = 0 then cal (f_X4_share F S D a0 a1) fun t20 => (if (lg_cmp t20 0) = 0 then cal (f_X4_commonStretch F S D a0 a1) fun t24 => (if t24 < 0 then okB 0 (some 0) else okB 1 (some 1)) else okB 0 (some 0)) else cal (f_X4_share F S D a0 a1) fun t6 => cal (f_X4_isPart F S D t6 t3) fun t8 => (if t8 = 0 then okB 0 (some 0) else ckK S a1 4 <| cal (f_X4_share F S D a1 a0) fun t13 => cal (f_X4_isPart F S D t13 (-t3)) fun t15 => (if t15 = 0 then okB 0 (some 0) else okB 1 (some 1))))
set_option maxRecDepth 100000 in
set_option maxHeartbeats 4000000 in
theorem m_X4_touches (l : Launch) (G : cG) (F : Nat) (S : CS) (D : CD) (a0 : Nat) (a1 : Nat) (r : Int32) (h : f_X4_touches F S D a0 a1 = some r) : cMI l yX4_touches vX4_touches ({ frames := 2, cells := 0, slots := 0, locals := 44 }) G S [.ref a0, .ref a1] D D r := by
  refine cBodyI (cc := cX4_touches) (maxL := 4) (ret := (some .boolean)) (own := RX4) (by decide) rfl rfl ?_
  intro sz p e s m below meth c hC hP
  have hC0 := hC
  obtain ⟨hx, hb, -, hts, hown, -, hml, -, -, -⟩ := hC0
  have hS : va_S (cA G S sz) s.heap s.heap [] := va_S.rf
  refine m_entry (Nat.le_of_ble_eq_true rfl) (fun ls hl => ?_)
  have hl : lv_has ls 4 [(0, .ref a0), (1, .ref a1)] := hl
  unfold f_X4_touches at h
  refine lv_aload_n hx hb dX4_touches_0 rfl (lv_at hl 0 rfl) ?_
  refine lv_aload_n hx hb dX4_touches_1 rfl (lv_at hl 1 rfl) ?_
  obtain ⟨z1, h⟩ := ckK_el h
  obtain ⟨t3, e2, h⟩ := cal_el h
  refine c_VL (As := [.ref a1]) (rest := []) hC hP hS z1.1 (cE_4 z1.2) (C := RX4) (T := TX4) (N := 6) rfl (m_X4_turn l G F S D a0 a1 t3 e2) (cwV 1 hts (gWC wc_51 wc_52 wc_53 wc_48 wc_29) rfl rfl rfl (by decide +kernel) ⟨Nat.le_of_ble_eq_true rfl, Nat.le_of_ble_eq_true rfl⟩) rfl hl.1 rfl (Nat.le_of_ble_eq_true rfl) dX4_touches_2 (fun H locs hP hS => ?_)
  refine lv_lstore_n (lv' := [(2, .long t3), (0, .ref a0), (1, .ref a1)]) hx hb dX4_touches_5 rfl hl (by decide) rfl (fun ls hl => ?_)
  refine lv_lload_n hx hb dX4_touches_6 rfl (lv_at hl 0 rfl) ?_
  refine lv_lconst (v := 0) hx hb dX4_touches_7 (by decide) ?_
  refine W.lcmp hx hb dX4_touches_8 ?_
  refine lv_if_ne (tgt := 36) hx hb dX4_touches_9 (by decide) (fun u4 => ?_) (fun u4 => ?_)
  · have h := ite_f u4 h
    refine lv_aload_n hx hb dX4_touches_36 rfl (lv_at hl 1 rfl) ?_
    refine lv_aload_n hx hb dX4_touches_37 rfl (lv_at hl 2 rfl) ?_
    obtain ⟨t6, e5, h⟩ := cal_el h
    refine c_VL (As := [.ref a1]) (rest := []) hC hP hS z1.1 (cE_4 z1.2) (C := RX4) (T := TX4) (N := 6) rfl (m_X4_share l G F S D a0 a1 t6 e5) (cwV 1 hts (gWC wc_54 wc_55 wc_56 wc_48 wc_32) rfl rfl rfl (by decide +kernel) ⟨Nat.le_of_ble_eq_true rfl, Nat.le_of_ble_eq_true rfl⟩) rfl hl.1 rfl (Nat.le_of_ble_eq_true rfl) dX4_touches_38 (fun H locs hP hS => ?_)
    refine lv_lload_n hx hb dX4_touches_41 rfl (lv_at hl 0 rfl) ?_
    obtain ⟨t8, e7, h⟩ := cal_el h
    refine c_SI (As := [.long t6, .long t3]) (rest := []) hC hP hS (m_X4_isPart l G F S D t6 t3 t8 e7) (va_cwS 2 hts (gWCS wc_60 wc_61 wc_48 wc_49) rfl rfl rfl (by decide +kernel) ⟨Nat.le_of_ble_eq_true rfl, Nat.le_of_ble_eq_true rfl⟩) rfl hl.1 rfl (Nat.le_of_ble_eq_true rfl) dX4_touches_42 (fun H locs hP hS => ?_)
    refine lv_if_eq (tgt := 65) hx hb dX4_touches_45 (by decide) (fun u9 => ?_) (fun u9 => ?_)
    · have h := ite_t u9 h
      refine lv_iconst (v := 0) hx hb dX4_touches_65 (by decide) ?_
      obtain ⟨z10, h⟩ := okB_el h
      cases h
      exact c_zret hC hP hS z10 rfl dX4_touches_66
    · have h := ite_f u9 h
      refine lv_aload_n hx hb dX4_touches_48 rfl (lv_at hl 2 rfl) ?_
      refine lv_aload_n hx hb dX4_touches_49 rfl (lv_at hl 1 rfl) ?_
      obtain ⟨z11, h⟩ := ckK_el h
      obtain ⟨t13, e12, h⟩ := cal_el h
      refine c_VL (As := [.ref a0]) (rest := []) hC hP hS z11.1 (cE_4 z11.2) (C := RX4) (T := TX4) (N := 6) rfl (m_X4_share l G F S D a1 a0 t13 e12) (cwV 1 hts (gWC wc_54 wc_55 wc_56 wc_48 wc_32) rfl rfl rfl (by decide +kernel) ⟨Nat.le_of_ble_eq_true rfl, Nat.le_of_ble_eq_true rfl⟩) rfl hl.1 rfl (Nat.le_of_ble_eq_true rfl) dX4_touches_50 (fun H locs hP hS => ?_)
      refine lv_lload_n hx hb dX4_touches_53 rfl (lv_at hl 0 rfl) ?_
      refine lv_lneg hx hb dX4_touches_54 ?_
      obtain ⟨t15, e14, h⟩ := cal_el h
      refine c_SI (As := [.long t13, .long (-t3)]) (rest := []) hC hP hS (m_X4_isPart l G F S D t13 (-t3) t15 e14) (va_cwS 2 hts (gWCS wc_60 wc_61 wc_48 wc_49) rfl rfl rfl (by decide +kernel) ⟨Nat.le_of_ble_eq_true rfl, Nat.le_of_ble_eq_true rfl⟩) rfl hl.1 rfl (Nat.le_of_ble_eq_true rfl) dX4_touches_55 (fun H locs hP hS => ?_)
      refine lv_if_eq (tgt := 65) hx hb dX4_touches_58 (by decide) (fun u16 => ?_) (fun u16 => ?_)
      · have h := ite_t u16 h
        refine lv_iconst (v := 0) hx hb dX4_touches_65 (by decide) ?_
        obtain ⟨z17, h⟩ := okB_el h
        cases h
        exact c_zret hC hP hS z17 rfl dX4_touches_66
      · have h := ite_f u16 h
        refine lv_iconst (v := 1) hx hb dX4_touches_61 (by decide) ?_
        refine lv_goto (tgt := 66) hx hb dX4_touches_62 (by decide) ?_
        obtain ⟨z18, h⟩ := okB_el h
        cases h
        exact c_zret hC hP hS z18 rfl dX4_touches_66
  · have h := ite_t u4 h
    refine lv_aload_n hx hb dX4_touches_12 rfl (lv_at hl 1 rfl) ?_
    refine lv_aload_n hx hb dX4_touches_13 rfl (lv_at hl 2 rfl) ?_
    obtain ⟨t20, e19, h⟩ := cal_el h
    refine c_VL (As := [.ref a1]) (rest := []) hC hP hS z1.1 (cE_4 z1.2) (C := RX4) (T := TX4) (N := 6) rfl (m_X4_share l G F S D a0 a1 t20 e19) (cwV 1 hts (gWC wc_54 wc_55 wc_56 wc_48 wc_32) rfl rfl rfl (by decide +kernel) ⟨Nat.le_of_ble_eq_true rfl, Nat.le_of_ble_eq_true rfl⟩) rfl hl.1 rfl (Nat.le_of_ble_eq_true rfl) dX4_touches_14 (fun H locs hP hS => ?_)
    refine lv_lconst (v := 0) hx hb dX4_touches_17 (by decide) ?_
    refine W.lcmp hx hb dX4_touches_18 ?_
    refine lv_if_ne (tgt := 34) hx hb dX4_touches_19 (by decide) (fun u21 => ?_) (fun u21 => ?_)
    · have h := ite_f u21 h
      refine lv_iconst (v := 0) hx hb dX4_touches_34 (by decide) ?_
      obtain ⟨z22, h⟩ := okB_el h
      cases h
      exact c_zret hC hP hS z22 rfl dX4_touches_35
    · have h := ite_t u21 h
      refine lv_aload_n hx hb dX4_touches_22 rfl (lv_at hl 1 rfl) ?_
      refine lv_aload_n hx hb dX4_touches_23 rfl (lv_at hl 2 rfl) ?_
      obtain ⟨t24, e23, h⟩ := cal_el h
      refine c_VI (As := [.ref a1]) (rest := []) hC hP hS z1.1 (cE_4 z1.2) (C := RX4) (T := TX4) (N := 6) rfl (m_X4_commonStretch l G F S D a0 a1 t24 e23) (cwV 1 hts (gWC wc_57 wc_58 wc_59 wc_48 wc_36) rfl rfl rfl (by decide +kernel) ⟨Nat.le_of_ble_eq_true rfl, Nat.le_of_ble_eq_true rfl⟩) rfl hl.1 rfl (Nat.le_of_ble_eq_true rfl) dX4_touches_24 (fun H locs hP hS => ?_)
      refine lv_if_lt (tgt := 34) hx hb dX4_touches_27 (by decide) (fun u25 => ?_) (fun u25 => ?_)
      · have h := ite_t u25 h
        refine lv_iconst (v := 0) hx hb dX4_touches_34 (by decide) ?_
        obtain ⟨z26, h⟩ := okB_el h
        cases h
        exact c_zret hC hP hS z26 rfl dX4_touches_35
      · have h := ite_f u25 h
        refine lv_iconst (v := 1) hx hb dX4_touches_30 (by decide) ?_
        refine lv_goto (tgt := 35) hx hb dX4_touches_31 (by decide) ?_
        obtain ⟨z27, h⟩ := okB_el h
        cases h
        exact c_zret hC hP hS z27 rfl dX4_touches_35

theorem dX6_meet_0 : decode cX6_meet 0 = .ok (.aload_n 0, 1) := by decide +kernel
theorem dX6_meet_1 : decode cX6_meet 1 = .ok (.iload_n 1, 1) := by decide +kernel
theorem dX6_meet_2 : decode cX6_meet 2 = .ok (.invokevirtual 94, 3) := by decide +kernel
theorem dX6_meet_5 : decode cX6_meet 5 = .ok (.aload_n 0, 1) := by decide +kernel
theorem dX6_meet_6 : decode cX6_meet 6 = .ok (.iload_n 2, 1) := by decide +kernel
theorem dX6_meet_7 : decode cX6_meet 7 = .ok (.invokevirtual 94, 3) := by decide +kernel
theorem dX6_meet_10 : decode cX6_meet 10 = .ok (.aload_n 0, 1) := by decide +kernel
theorem dX6_meet_11 : decode cX6_meet 11 = .ok (.iload_n 1, 1) := by decide +kernel
theorem dX6_meet_12 : decode cX6_meet 12 = .ok (.invokevirtual 101, 3) := by decide +kernel
theorem dX6_meet_15 : decode cX6_meet 15 = .ok (.aload_n 0, 1) := by decide +kernel
theorem dX6_meet_16 : decode cX6_meet 16 = .ok (.iload_n 2, 1) := by decide +kernel
theorem dX6_meet_17 : decode cX6_meet 17 = .ok (.invokevirtual 101, 3) := by decide +kernel
theorem dX6_meet_20 : decode cX6_meet 20 = .ok (.invokevirtual 105, 3) := by decide +kernel
theorem dX6_meet_23 : decode cX6_meet 23 = .ok (.ireturn, 1) := by decide +kernel
def f_X6_meet (F : Nat) (S : CS) (D : CD) (a0 : Nat) (a1 : Int32) (a2 : Int32) : Option Int32 := ckK S a0 6 <| cal (f_X6_checkSegment F S D a0 a1) fun _ => cal (f_X6_checkSegment F S D a0 a2) fun _ => cal (f_X6_lineAt F S D a0 a1) fun t5 => cal (f_X6_lineAt F S D a0 a2) fun t7 => ckK S t5 4 <| cal (f_X4_touches F S D t5 t7) fun t10 => okB t10 (some t10)
set_option maxRecDepth 100000 in
set_option maxHeartbeats 4000000 in
theorem m_X6_meet (l : Launch) (G : cG) (F : Nat) (S : CS) (D : CD) (a0 : Nat) (a1 : Int32) (a2 : Int32) (r : Int32) (h : f_X6_meet F S D a0 a1 a2 = some r) : cMI l yX6_meet vX6_meet ({ frames := 4, cells := 0, slots := 0, locals := 85 }) G S [.ref a0, .int a1, .int a2] D D r := by
  refine cBodyI (cc := cX6_meet) (maxL := 3) (ret := (some .boolean)) (own := RX6) (by decide) rfl rfl ?_
  intro sz p e s m below meth c hC hP
  have hC0 := hC
  obtain ⟨hx, hb, -, hts, hown, -, hml, -, -, -⟩ := hC0
  have hS : va_S (cA G S sz) s.heap s.heap [] := va_S.rf
  refine m_entry (Nat.le_of_ble_eq_true rfl) (fun ls hl => ?_)
  have hl : lv_has ls 3 [(0, .ref a0), (1, .int a1), (2, .int a2)] := hl
  unfold f_X6_meet at h
  refine lv_aload_n hx hb dX6_meet_0 rfl (lv_at hl 0 rfl) ?_
  refine lv_iload_n hx hb dX6_meet_1 rfl (lv_at hl 1 rfl) ?_
  obtain ⟨z1, h⟩ := ckK_el h
  obtain ⟨_, e2, h⟩ := cal_el h
  refine c_VV (As := [.int a1]) (rest := []) hC hP hS z1.1 (cE_6 z1.2) (C := RX6) (T := TX6) (N := 8) rfl (m_X6_checkSegment l G F S D a0 a1 e2) (cwV 1 hts (gWC wc_63 wc_64 wc_65 wc_66 wc_8) rfl rfl rfl (by decide +kernel) ⟨Nat.le_of_ble_eq_true rfl, Nat.le_of_ble_eq_true rfl⟩) rfl hl.1 rfl (Nat.le_of_ble_eq_true rfl) dX6_meet_2 (fun H locs hP hS => ?_)
  refine lv_aload_n hx hb dX6_meet_5 rfl (lv_at hl 0 rfl) ?_
  refine lv_iload_n hx hb dX6_meet_6 rfl (lv_at hl 2 rfl) ?_
  obtain ⟨_, e3, h⟩ := cal_el h
  refine c_VV (As := [.int a2]) (rest := []) hC hP hS z1.1 (cE_6 z1.2) (C := RX6) (T := TX6) (N := 8) rfl (m_X6_checkSegment l G F S D a0 a2 e3) (cwV 1 hts (gWC wc_63 wc_64 wc_65 wc_66 wc_8) rfl rfl rfl (by decide +kernel) ⟨Nat.le_of_ble_eq_true rfl, Nat.le_of_ble_eq_true rfl⟩) rfl hl.1 rfl (Nat.le_of_ble_eq_true rfl) dX6_meet_7 (fun H locs hP hS => ?_)
  refine lv_aload_n hx hb dX6_meet_10 rfl (lv_at hl 0 rfl) ?_
  refine lv_iload_n hx hb dX6_meet_11 rfl (lv_at hl 1 rfl) ?_
  obtain ⟨t5, e4, h⟩ := cal_el h
  refine c_VA (As := [.int a1]) (rest := []) hC hP hS z1.1 (cE_6 z1.2) (C := RX6) (T := TX6) (N := 8) rfl (m_X6_lineAt l G F S D a0 a1 t5 e4) (cwV 1 hts (gWC wc_67 wc_68 wc_69 wc_66 wc_23) rfl rfl rfl (by decide +kernel) ⟨Nat.le_of_ble_eq_true rfl, Nat.le_of_ble_eq_true rfl⟩) rfl hl.1 rfl (Nat.le_of_ble_eq_true rfl) dX6_meet_12 (fun H locs hP hS => ?_)
  refine lv_aload_n hx hb dX6_meet_15 rfl (lv_at hl 0 rfl) ?_
  refine lv_iload_n hx hb dX6_meet_16 rfl (lv_at hl 2 rfl) ?_
  obtain ⟨t7, e6, h⟩ := cal_el h
  refine c_VA (As := [.int a2]) (rest := [.ref t5]) hC hP hS z1.1 (cE_6 z1.2) (C := RX6) (T := TX6) (N := 8) rfl (m_X6_lineAt l G F S D a0 a2 t7 e6) (cwV 1 hts (gWC wc_67 wc_68 wc_69 wc_66 wc_23) rfl rfl rfl (by decide +kernel) ⟨Nat.le_of_ble_eq_true rfl, Nat.le_of_ble_eq_true rfl⟩) rfl hl.1 rfl (Nat.le_of_ble_eq_true rfl) dX6_meet_17 (fun H locs hP hS => ?_)
  obtain ⟨z8, h⟩ := ckK_el h
  obtain ⟨t10, e9, h⟩ := cal_el h
  refine c_VI (As := [.ref t7]) (rest := []) hC hP hS z8.1 (cE_4 z8.2) (C := RX4) (T := TX4) (N := 6) rfl (m_X4_touches l G F S D t5 t7 t10 e9) (cwV 1 hts (gWC wc_70 wc_71 wc_72 wc_48 wc_50) rfl rfl rfl (by decide +kernel) ⟨Nat.le_of_ble_eq_true rfl, Nat.le_of_ble_eq_true rfl⟩) rfl hl.1 rfl (Nat.le_of_ble_eq_true rfl) dX6_meet_20 (fun H locs hP hS => ?_)
  obtain ⟨z11, h⟩ := okB_el h
  cases h
  exact c_zret hC hP hS z11 rfl dX6_meet_23

theorem dX6_vertices_0 : decode cX6_vertices 0 = .ok (.aload_n 0, 1) := by decide +kernel
theorem dX6_vertices_1 : decode cX6_vertices 1 = .ok (.getfield 28, 3) := by decide +kernel
theorem dX6_vertices_4 : decode cX6_vertices 4 = .ok (.getfield 108, 3) := by decide +kernel
theorem dX6_vertices_7 : decode cX6_vertices 7 = .ok (.ireturn, 1) := by decide +kernel
def f_X6_vertices (F : Nat) (S : CS) (D : CD) (a0 : Nat) : Option Int32 := ckK S a0 6 <| cal (S.2.2.1 a0 2) fun p2 => ckK S p2 5 <| some (D.1 p2 6)
set_option maxRecDepth 100000 in
set_option maxHeartbeats 4000000 in
theorem m_X6_vertices (l : Launch) (G : cG) (F : Nat) (S : CS) (D : CD) (a0 : Nat) (r : Int32) (h : f_X6_vertices F S D a0 = some r) : cMI l yX6_vertices vX6_vertices ({ frames := 0, cells := 0, slots := 0, locals := 0 }) G S [.ref a0] D D r := by
  refine cBodyI (cc := cX6_vertices) (maxL := 1) (ret := (some .int)) (own := RX6) (by decide) rfl rfl ?_
  intro sz p e s m below meth c hC hP
  have hC0 := hC
  obtain ⟨hx, hb, -, hts, hown, -, hml, -, -, -⟩ := hC0
  have hS : va_S (cA G S sz) s.heap s.heap [] := va_S.rf
  have hin_X5 : ∀ w ∈ wsX50, w ∈ vX6_vertices := fun w h => List.mem_cons_of_mem _ (hWC5 w h)
  have hin_X6 : ∀ w ∈ wsX60, w ∈ vX6_vertices := fun w h => List.mem_cons_of_mem _ (hWC6 w h)
  have fl_X6_corners := hts _ (List.mem_cons_of_mem _ wc_74)
  refine m_entry (Nat.le_of_ble_eq_true rfl) (fun ls hl => ?_)
  have hl : lv_has ls 1 [(0, .ref a0)] := hl
  unfold f_X6_vertices at h
  refine lv_aload_n hx hb dX6_vertices_0 rfl (lv_at hl 0 rfl) ?_
  obtain ⟨z1, h⟩ := ckK_el h
  obtain ⟨p2, e3, h⟩ := cal_el h
  refine c_get (C := RX6) (T := TX6) (N := 8) (ref := "SegmentMap") (ci := 7) (v := .ref p2) hC hin_X6 hP z1.1 (cE_6 z1.2) rfl 2 (by decide) fl_X6_corners rfl (by show some (va_rf (S.2.2.1 a0 2)) = _; rw [e3]; rfl) dX6_vertices_1 ?_
  obtain ⟨z4, h⟩ := ckK_el h
  refine c_getN (C := RX5) (T := TX5) (N := 7) (ref := "SegmentMap$Vertices") (ci := 6) (v := .int (D.1 p2 6)) hC hin_X5 hP z4.1 (cE_5 z4.2) rfl 6 (by decide) (nm := "count") (ds := "I") (List.mem_of_getElem? (i := 0) rfl) rfl rfl dX6_vertices_4 ?_
  cases h
  exact c_iret hC hP hS rfl dX6_vertices_7

theorem dX6_edges_0 : decode cX6_edges 0 = .ok (.aload_n 0, 1) := by decide +kernel
theorem dX6_edges_1 : decode cX6_edges 1 = .ok (.getfield 35, 3) := by decide +kernel
theorem dX6_edges_4 : decode cX6_edges 4 = .ok (.getfield 112, 3) := by decide +kernel
theorem dX6_edges_7 : decode cX6_edges 7 = .ok (.ireturn, 1) := by decide +kernel
def f_X6_edges (F : Nat) (S : CS) (D : CD) (a0 : Nat) : Option Int32 := ckK S a0 6 <| cal (S.2.2.1 a0 3) fun p2 => ckK S p2 0 <| some (D.1 p2 5)
set_option maxRecDepth 100000 in
set_option maxHeartbeats 4000000 in
theorem m_X6_edges (l : Launch) (G : cG) (F : Nat) (S : CS) (D : CD) (a0 : Nat) (r : Int32) (h : f_X6_edges F S D a0 = some r) : cMI l yX6_edges vX6_edges ({ frames := 0, cells := 0, slots := 0, locals := 0 }) G S [.ref a0] D D r := by
  refine cBodyI (cc := cX6_edges) (maxL := 1) (ret := (some .int)) (own := RX6) (by decide) rfl rfl ?_
  intro sz p e s m below meth c hC hP
  have hC0 := hC
  obtain ⟨hx, hb, -, hts, hown, -, hml, -, -, -⟩ := hC0
  have hS : va_S (cA G S sz) s.heap s.heap [] := va_S.rf
  have hin_X0 : ∀ w ∈ wsX00, w ∈ vX6_edges := fun w h => List.mem_cons_of_mem _ (hWC0 w h)
  have hin_X6 : ∀ w ∈ wsX60, w ∈ vX6_edges := fun w h => List.mem_cons_of_mem _ (hWC6 w h)
  have fl_X6_pieces := hts _ (List.mem_cons_of_mem _ wc_76)
  refine m_entry (Nat.le_of_ble_eq_true rfl) (fun ls hl => ?_)
  have hl : lv_has ls 1 [(0, .ref a0)] := hl
  unfold f_X6_edges at h
  refine lv_aload_n hx hb dX6_edges_0 rfl (lv_at hl 0 rfl) ?_
  obtain ⟨z1, h⟩ := ckK_el h
  obtain ⟨p2, e3, h⟩ := cal_el h
  refine c_get (C := RX6) (T := TX6) (N := 8) (ref := "SegmentMap") (ci := 7) (v := .ref p2) hC hin_X6 hP z1.1 (cE_6 z1.2) rfl 3 (by decide) fl_X6_pieces rfl (by show some (va_rf (S.2.2.1 a0 3)) = _; rw [e3]; rfl) dX6_edges_1 ?_
  obtain ⟨z4, h⟩ := ckK_el h
  refine c_getN (C := RX0) (T := TX0) (N := 6) (ref := "SegmentMap$Edges") (ci := 1) (v := .int (D.1 p2 5)) hC hin_X0 hP z4.1 (cE_0 z4.2) rfl 5 (by decide) (nm := "count") (ds := "I") (List.mem_of_getElem? (i := 1) rfl) rfl rfl dX6_edges_4 ?_
  cases h
  exact c_iret hC hP hS rfl dX6_edges_7

theorem dX6_faces_0 : decode cX6_faces 0 = .ok (.aload_n 0, 1) := by decide +kernel
theorem dX6_faces_1 : decode cX6_faces 1 = .ok (.getfield 42, 3) := by decide +kernel
theorem dX6_faces_4 : decode cX6_faces 4 = .ok (.getfield 113, 3) := by decide +kernel
theorem dX6_faces_7 : decode cX6_faces 7 = .ok (.ireturn, 1) := by decide +kernel
def f_X6_faces (F : Nat) (S : CS) (D : CD) (a0 : Nat) : Option Int32 := ckK S a0 6 <| cal (S.2.2.1 a0 4) fun p2 => ckK S p2 1 <| some (D.1 p2 2)
set_option maxRecDepth 100000 in
set_option maxHeartbeats 4000000 in
theorem m_X6_faces (l : Launch) (G : cG) (F : Nat) (S : CS) (D : CD) (a0 : Nat) (r : Int32) (h : f_X6_faces F S D a0 = some r) : cMI l yX6_faces vX6_faces ({ frames := 0, cells := 0, slots := 0, locals := 0 }) G S [.ref a0] D D r := by
  refine cBodyI (cc := cX6_faces) (maxL := 1) (ret := (some .int)) (own := RX6) (by decide) rfl rfl ?_
  intro sz p e s m below meth c hC hP
  have hC0 := hC
  obtain ⟨hx, hb, -, hts, hown, -, hml, -, -, -⟩ := hC0
  have hS : va_S (cA G S sz) s.heap s.heap [] := va_S.rf
  have hin_X1 : ∀ w ∈ wsX10, w ∈ vX6_faces := fun w h => List.mem_cons_of_mem _ (hWC1 w h)
  have hin_X6 : ∀ w ∈ wsX60, w ∈ vX6_faces := fun w h => List.mem_cons_of_mem _ (hWC6 w h)
  have fl_X6_regions := hts _ (List.mem_cons_of_mem _ wc_78)
  refine m_entry (Nat.le_of_ble_eq_true rfl) (fun ls hl => ?_)
  have hl : lv_has ls 1 [(0, .ref a0)] := hl
  unfold f_X6_faces at h
  refine lv_aload_n hx hb dX6_faces_0 rfl (lv_at hl 0 rfl) ?_
  obtain ⟨z1, h⟩ := ckK_el h
  obtain ⟨p2, e3, h⟩ := cal_el h
  refine c_get (C := RX6) (T := TX6) (N := 8) (ref := "SegmentMap") (ci := 7) (v := .ref p2) hC hin_X6 hP z1.1 (cE_6 z1.2) rfl 4 (by decide) fl_X6_regions rfl (by show some (va_rf (S.2.2.1 a0 4)) = _; rw [e3]; rfl) dX6_faces_1 ?_
  obtain ⟨z4, h⟩ := ckK_el h
  refine c_getN (C := RX1) (T := TX1) (N := 3) (ref := "SegmentMap$Faces") (ci := 2) (v := .int (D.1 p2 2)) hC hin_X1 hP z4.1 (cE_1 z4.2) rfl 2 (by decide) (nm := "count") (ds := "I") (List.mem_of_getElem? (i := 2) rfl) rfl rfl dX6_faces_4 ?_
  cases h
  exact c_iret hC hP hS rfl dX6_faces_7

theorem dX6_components_0 : decode cX6_components 0 = .ok (.aload_n 0, 1) := by decide +kernel
theorem dX6_components_1 : decode cX6_components 1 = .ok (.getfield 114, 3) := by decide +kernel
theorem dX6_components_4 : decode cX6_components 4 = .ok (.ireturn, 1) := by decide +kernel
def f_X6_components (F : Nat) (S : CS) (D : CD) (a0 : Nat) : Option Int32 := ckK S a0 6 <| some (D.1 a0 7)
set_option maxRecDepth 100000 in
set_option maxHeartbeats 4000000 in
theorem m_X6_components (l : Launch) (G : cG) (F : Nat) (S : CS) (D : CD) (a0 : Nat) (r : Int32) (h : f_X6_components F S D a0 = some r) : cMI l yX6_components vX6_components ({ frames := 0, cells := 0, slots := 0, locals := 0 }) G S [.ref a0] D D r := by
  refine cBodyI (cc := cX6_components) (maxL := 1) (ret := (some .int)) (own := RX6) (by decide) rfl rfl ?_
  intro sz p e s m below meth c hC hP
  have hC0 := hC
  obtain ⟨hx, hb, -, hts, hown, -, hml, -, -, -⟩ := hC0
  have hS : va_S (cA G S sz) s.heap s.heap [] := va_S.rf
  have hin_X6 : ∀ w ∈ wsX60, w ∈ vX6_components := fun w h => List.mem_cons_of_mem _ (hWC6 w h)
  have fl_X6_componentCount := hts _ (List.mem_cons_of_mem _ wc_80)
  refine m_entry (Nat.le_of_ble_eq_true rfl) (fun ls hl => ?_)
  have hl : lv_has ls 1 [(0, .ref a0)] := hl
  unfold f_X6_components at h
  refine lv_aload_n hx hb dX6_components_0 rfl (lv_at hl 0 rfl) ?_
  obtain ⟨z1, h⟩ := ckK_el h
  refine c_get (C := RX6) (T := TX6) (N := 8) (ref := "SegmentMap") (ci := 7) (v := .int (D.1 a0 7)) hC hin_X6 hP z1.1 (cE_6 z1.2) rfl 7 (by decide) fl_X6_componentCount rfl rfl dX6_components_1 ?_
  cases h
  exact c_iret hC hP hS rfl dX6_components_4

theorem dX6_checkVertex_0 : decode cX6_checkVertex 0 = .ok (.iload_n 1, 1) := by decide +kernel
theorem dX6_checkVertex_1 : decode cX6_checkVertex 1 = .ok (.ifCond .lt 14, 3) := by decide +kernel
theorem dX6_checkVertex_4 : decode cX6_checkVertex 4 = .ok (.iload_n 1, 1) := by decide +kernel
theorem dX6_checkVertex_5 : decode cX6_checkVertex 5 = .ok (.aload_n 0, 1) := by decide +kernel
theorem dX6_checkVertex_6 : decode cX6_checkVertex 6 = .ok (.getfield 28, 3) := by decide +kernel
theorem dX6_checkVertex_9 : decode cX6_checkVertex 9 = .ok (.getfield 108, 3) := by decide +kernel
theorem dX6_checkVertex_12 : decode cX6_checkVertex 12 = .ok (.if_icmp .lt 13, 3) := by decide +kernel
theorem dX6_checkVertex_15 : decode cX6_checkVertex 15 = .ok (.new 190, 3) := by decide +kernel
theorem dX6_checkVertex_18 : decode cX6_checkVertex 18 = .ok (.dup, 1) := by decide +kernel
theorem dX6_checkVertex_19 : decode cX6_checkVertex 19 = .ok (.ldc 211, 2) := by decide +kernel
theorem dX6_checkVertex_21 : decode cX6_checkVertex 21 = .ok (.invokespecial 194, 3) := by decide +kernel
theorem dX6_checkVertex_24 : decode cX6_checkVertex 24 = .ok (.athrow, 1) := by decide +kernel
theorem dX6_checkVertex_25 : decode cX6_checkVertex 25 = .ok (.return_, 1) := by decide +kernel
def f_X6_checkVertex (F : Nat) (S : CS) (D : CD) (a0 : Nat) (a1 : Int32) : Option Unit := (if a1 < 0 then none else ckK S a0 6 <| cal (S.2.2.1 a0 2) fun p3 => ckK S p3 5 <| (if a1 < (D.1 p3 6) then some () else none))
set_option maxRecDepth 100000 in
set_option maxHeartbeats 4000000 in
theorem m_X6_checkVertex (l : Launch) (G : cG) (F : Nat) (S : CS) (D : CD) (a0 : Nat) (a1 : Int32) (h : f_X6_checkVertex F S D a0 a1 = some ()) : cMV l yX6_checkVertex vX6_checkVertex ({ frames := 0, cells := 0, slots := 0, locals := 0 }) G S [.ref a0, .int a1] D D := by
  refine cBodyV (cc := cX6_checkVertex) (maxL := 2) (ret := none) (own := RX6) (by decide) rfl rfl ?_
  intro sz p e s m below meth c hC hP
  have hC0 := hC
  obtain ⟨hx, hb, -, hts, hown, -, hml, -, -, -⟩ := hC0
  have hS : va_S (cA G S sz) s.heap s.heap [] := va_S.rf
  have hin_X5 : ∀ w ∈ wsX50, w ∈ vX6_checkVertex := fun w h => List.mem_cons_of_mem _ (hWC5 w h)
  have hin_X6 : ∀ w ∈ wsX60, w ∈ vX6_checkVertex := fun w h => List.mem_cons_of_mem _ (hWC6 w h)
  have fl_X6_corners := hts _ (List.mem_cons_of_mem _ wc_74)
  refine m_entry (Nat.le_of_ble_eq_true rfl) (fun ls hl => ?_)
  have hl : lv_has ls 2 [(0, .ref a0), (1, .int a1)] := hl
  unfold f_X6_checkVertex at h
  refine lv_iload_n hx hb dX6_checkVertex_0 rfl (lv_at hl 1 rfl) ?_
  refine lv_if_lt (tgt := 15) hx hb dX6_checkVertex_1 (by decide) (fun u1 => ?_) (fun u1 => ?_)
  · have h := ite_t u1 h
    cases h
  · have h := ite_f u1 h
    refine lv_iload_n hx hb dX6_checkVertex_4 rfl (lv_at hl 1 rfl) ?_
    refine lv_aload_n hx hb dX6_checkVertex_5 rfl (lv_at hl 0 rfl) ?_
    obtain ⟨z2, h⟩ := ckK_el h
    obtain ⟨p3, e4, h⟩ := cal_el h
    refine c_get (C := RX6) (T := TX6) (N := 8) (ref := "SegmentMap") (ci := 7) (v := .ref p3) hC hin_X6 hP z2.1 (cE_6 z2.2) rfl 2 (by decide) fl_X6_corners rfl (by show some (va_rf (S.2.2.1 a0 2)) = _; rw [e4]; rfl) dX6_checkVertex_6 ?_
    obtain ⟨z5, h⟩ := ckK_el h
    refine c_getN (C := RX5) (T := TX5) (N := 7) (ref := "SegmentMap$Vertices") (ci := 6) (v := .int (D.1 p3 6)) hC hin_X5 hP z5.1 (cE_5 z5.2) rfl 6 (by decide) (nm := "count") (ds := "I") (List.mem_of_getElem? (i := 0) rfl) rfl rfl dX6_checkVertex_9 ?_
    refine lv_icmp_lt (tgt := 25) hx hb dX6_checkVertex_12 (by decide) (fun u6 => ?_) (fun u6 => ?_)
    · have h := ite_t u6 h
      cases h
      exact c_vret hC hP hS dX6_checkVertex_25
    · have h := ite_f u6 h
      cases h

theorem dX5_at_0 : decode cX5_at 0 = .ok (.iload_n 1, 1) := by decide +kernel
theorem dX5_at_1 : decode cX5_at 1 = .ok (.ifCond .lt 21, 3) := by decide +kernel
theorem dX5_at_4 : decode cX5_at 4 = .ok (.iload_n 1, 1) := by decide +kernel
theorem dX5_at_5 : decode cX5_at 5 = .ok (.aload_n 0, 1) := by decide +kernel
theorem dX5_at_6 : decode cX5_at 6 = .ok (.getfield 11, 3) := by decide +kernel
theorem dX5_at_9 : decode cX5_at 9 = .ok (.arraylength, 1) := by decide +kernel
theorem dX5_at_10 : decode cX5_at 10 = .ok (.if_icmp .ge 12, 3) := by decide +kernel
theorem dX5_at_13 : decode cX5_at 13 = .ok (.aload_n 0, 1) := by decide +kernel
theorem dX5_at_14 : decode cX5_at 14 = .ok (.getfield 11, 3) := by decide +kernel
theorem dX5_at_17 : decode cX5_at 17 = .ok (.iload_n 1, 1) := by decide +kernel
theorem dX5_at_18 : decode cX5_at 18 = .ok (.aaload, 1) := by decide +kernel
theorem dX5_at_19 : decode cX5_at 19 = .ok (.goto 7, 3) := by decide +kernel
theorem dX5_at_22 : decode cX5_at 22 = .ok (.aload_n 0, 1) := by decide +kernel
theorem dX5_at_23 : decode cX5_at 23 = .ok (.getfield 18, 3) := by decide +kernel
theorem dX5_at_26 : decode cX5_at 26 = .ok (.areturn, 1) := by decide +kernel
def f_X5_at_b22 (F : Nat) (S : CS) (D : CD) (a0 : Nat) : Option Nat := ckK S a0 5 <| cal (S.2.2.1 a0 1) fun p2 => some p2
def f_X5_at (F : Nat) (S : CS) (D : CD) (a0 : Nat) (a1 : Int32) : Option Nat := (if a1 < 0 then f_X5_at_b22 F S D a0  else ckK S a0 5 <| cal (S.2.2.1 a0 0) fun p3 => ckK S p3 9 <| (if (Int32.ofNat (S.2.2.2 p3)) ≤ a1 then f_X5_at_b22 F S D a0  else cal (S.2.2.1 a0 0) fun p7 => ckK S p7 9 <| rdA (S.2.2.2 p7) (D.2.2.2 p7) a1 fun p10 => some p10))
set_option maxRecDepth 100000 in
set_option maxHeartbeats 4000000 in
theorem m_X5_at (l : Launch) (G : cG) (F : Nat) (S : CS) (D : CD) (a0 : Nat) (a1 : Int32) (r : Nat) (h : f_X5_at F S D a0 a1 = some r) : cMA l yX5_at vX5_at ({ frames := 0, cells := 0, slots := 0, locals := 0 }) G S [.ref a0, .int a1] D D r := by
  refine cBodyA (cc := cX5_at) (maxL := 2) (ret := (some (.object "SegmentMap$Point"))) (own := RX5) (by decide) rfl rfl ?_
  intro sz p e s m below meth c hC hP
  have hC0 := hC
  obtain ⟨hx, hb, -, hts, hown, -, hml, -, -, -⟩ := hC0
  have hS : va_S (cA G S sz) s.heap s.heap [] := va_S.rf
  have hin_X5 : ∀ w ∈ wsX50, w ∈ vX5_at := fun w h => List.mem_cons_of_mem _ (hWC5 w h)
  have fl_X5_points := hts _ (List.mem_cons_of_mem _ wc_83)
  have fl_X5_noPoint := hts _ (List.mem_cons_of_mem _ wc_84)
  have b22 : ∀ (H : Heap) (locs : List Loc) (ls : Array Slot), va_P G.1 vwCl (cW G S D) H → va_S (cA G S sz) s.heap H locs → lv_has ls 2 [(0, .ref a0)] → f_X5_at_b22 F S D a0 = some r → W p l e (headSpec vX5_at ({ frames := 0, cells := 0, slots := 0, locals := 0 })).room s m ([.ref a0, .int a1] : List Value).toArray below meth c H locs 0 0 (cQA below G S D sz ([.ref a0, .int a1] : List Value).toArray s r) (F0 m 22 ls []) := by
    intro H locs ls hP hS hl h
    unfold f_X5_at_b22 at h
    refine lv_aload_n hx hb dX5_at_22 rfl (lv_at hl 0 rfl) ?_
    obtain ⟨z1, h⟩ := ckK_el h
    obtain ⟨p2, e3, h⟩ := cal_el h
    refine c_get (C := RX5) (T := TX5) (N := 7) (ref := "SegmentMap$Vertices") (ci := 6) (v := .ref p2) hC hin_X5 hP z1.1 (cE_5 z1.2) rfl 1 (by decide) fl_X5_noPoint rfl (by show some (va_rf (S.2.2.1 a0 1)) = _; rw [e3]; rfl) dX5_at_23 ?_
    cases h
    exact c_aret hC ⟨_, rfl⟩ hP hS rfl dX5_at_26
  refine m_entry (Nat.le_of_ble_eq_true rfl) (fun ls hl => ?_)
  have hl : lv_has ls 2 [(0, .ref a0), (1, .int a1)] := hl
  unfold f_X5_at at h
  refine lv_iload_n hx hb dX5_at_0 rfl (lv_at hl 1 rfl) ?_
  refine lv_if_lt (tgt := 22) hx hb dX5_at_1 (by decide) (fun u1 => ?_) (fun u1 => ?_)
  · have h := ite_t u1 h
    exact b22 _ _ _ hP hS (lv_sub hl [0] rfl) h
  · have h := ite_f u1 h
    refine lv_iload_n hx hb dX5_at_4 rfl (lv_at hl 1 rfl) ?_
    refine lv_aload_n hx hb dX5_at_5 rfl (lv_at hl 0 rfl) ?_
    obtain ⟨z2, h⟩ := ckK_el h
    obtain ⟨p3, e4, h⟩ := cal_el h
    refine c_get (C := RX5) (T := TX5) (N := 7) (ref := "SegmentMap$Vertices") (ci := 6) (v := .ref p3) hC hin_X5 hP z2.1 (cE_5 z2.2) rfl 0 (by decide) fl_X5_points rfl (by show some (va_rf (S.2.2.1 a0 0)) = _; rw [e4]; rfl) dX5_at_6 ?_
    obtain ⟨z5, h⟩ := ckK_el h
    refine c_alen hC hP z5.1 (by omega) (by omega) dX5_at_9 ?_
    refine lv_icmp_ge (tgt := 22) hx hb dX5_at_10 (by decide) (fun u6 => ?_) (fun u6 => ?_)
    · have h := ite_t u6 h
      exact b22 _ _ _ hP hS (lv_sub hl [0] rfl) h
    · have h := ite_f u6 h
      refine lv_aload_n hx hb dX5_at_13 rfl (lv_at hl 0 rfl) ?_
      obtain ⟨p7, e8, h⟩ := cal_el h
      refine c_get (C := RX5) (T := TX5) (N := 7) (ref := "SegmentMap$Vertices") (ci := 6) (v := .ref p7) hC hin_X5 hP z2.1 (cE_5 z2.2) rfl 0 (by decide) fl_X5_points rfl (by show some (va_rf (S.2.2.1 a0 0)) = _; rw [e8]; rfl) dX5_at_14 ?_
      refine lv_iload_n hx hb dX5_at_17 rfl (lv_at hl 1 rfl) ?_
      obtain ⟨z9, h⟩ := ckK_el h
      obtain ⟨y11, p10, e12, h⟩ := rdA_el h
      refine c_ald9 hC hP z9.1 z9.2 y11 e12 dX5_at_18 ?_
      refine lv_goto (tgt := 26) hx hb dX5_at_19 (by decide) ?_
      cases h
      exact c_aret hC ⟨_, rfl⟩ hP hS rfl dX5_at_26

theorem dX6_xNumerator_0 : decode cX6_xNumerator 0 = .ok (.aload_n 0, 1) := by decide +kernel
theorem dX6_xNumerator_1 : decode cX6_xNumerator 1 = .ok (.iload_n 1, 1) := by decide +kernel
theorem dX6_xNumerator_2 : decode cX6_xNumerator 2 = .ok (.invokevirtual 117, 3) := by decide +kernel
theorem dX6_xNumerator_5 : decode cX6_xNumerator 5 = .ok (.aload_n 0, 1) := by decide +kernel
theorem dX6_xNumerator_6 : decode cX6_xNumerator 6 = .ok (.getfield 28, 3) := by decide +kernel
theorem dX6_xNumerator_9 : decode cX6_xNumerator 9 = .ok (.iload_n 1, 1) := by decide +kernel
theorem dX6_xNumerator_10 : decode cX6_xNumerator 10 = .ok (.invokevirtual 120, 3) := by decide +kernel
theorem dX6_xNumerator_13 : decode cX6_xNumerator 13 = .ok (.getfield 124, 3) := by decide +kernel
theorem dX6_xNumerator_16 : decode cX6_xNumerator 16 = .ok (.l2i, 1) := by decide +kernel
theorem dX6_xNumerator_17 : decode cX6_xNumerator 17 = .ok (.ireturn, 1) := by decide +kernel
def f_X6_xNumerator (F : Nat) (S : CS) (D : CD) (a0 : Nat) (a1 : Int32) : Option Int32 := ckK S a0 6 <| cal (f_X6_checkVertex F S D a0 a1) fun _ => cal (S.2.2.1 a0 2) fun p3 => ckK S p3 5 <| cal (f_X5_at F S D p3 a1) fun t7 => ckK S t7 2 <| some ((D.2.1 t7 0).toInt32)
set_option maxRecDepth 100000 in
set_option maxHeartbeats 4000000 in
theorem m_X6_xNumerator (l : Launch) (G : cG) (F : Nat) (S : CS) (D : CD) (a0 : Nat) (a1 : Int32) (r : Int32) (h : f_X6_xNumerator F S D a0 a1 = some r) : cMI l yX6_xNumerator vX6_xNumerator ({ frames := 1, cells := 0, slots := 0, locals := 21 }) G S [.ref a0, .int a1] D D r := by
  refine cBodyI (cc := cX6_xNumerator) (maxL := 2) (ret := (some .int)) (own := RX6) (by decide) rfl rfl ?_
  intro sz p e s m below meth c hC hP
  have hC0 := hC
  obtain ⟨hx, hb, -, hts, hown, -, hml, -, -, -⟩ := hC0
  have hS : va_S (cA G S sz) s.heap s.heap [] := va_S.rf
  have hin_X2 : ∀ w ∈ wsX20, w ∈ vX6_xNumerator := fun w h => List.mem_cons_of_mem _ (hWC2 w h)
  have hin_X6 : ∀ w ∈ wsX60, w ∈ vX6_xNumerator := fun w h => List.mem_cons_of_mem _ (hWC6 w h)
  have fl_X6_corners := hts _ (List.mem_cons_of_mem _ wc_74)
  refine m_entry (Nat.le_of_ble_eq_true rfl) (fun ls hl => ?_)
  have hl : lv_has ls 2 [(0, .ref a0), (1, .int a1)] := hl
  unfold f_X6_xNumerator at h
  refine lv_aload_n hx hb dX6_xNumerator_0 rfl (lv_at hl 0 rfl) ?_
  refine lv_iload_n hx hb dX6_xNumerator_1 rfl (lv_at hl 1 rfl) ?_
  obtain ⟨z1, h⟩ := ckK_el h
  obtain ⟨_, e2, h⟩ := cal_el h
  refine c_VV (As := [.int a1]) (rest := []) hC hP hS z1.1 (cE_6 z1.2) (C := RX6) (T := TX6) (N := 8) rfl (m_X6_checkVertex l G F S D a0 a1 e2) (cwV 1 hts (gWC wc_86 wc_87 wc_88 wc_66 wc_81) rfl rfl rfl (by decide +kernel) ⟨Nat.le_of_ble_eq_true rfl, Nat.le_of_ble_eq_true rfl⟩) rfl hl.1 rfl (Nat.le_of_ble_eq_true rfl) dX6_xNumerator_2 (fun H locs hP hS => ?_)
  refine lv_aload_n hx hb dX6_xNumerator_5 rfl (lv_at hl 0 rfl) ?_
  obtain ⟨p3, e4, h⟩ := cal_el h
  refine c_get (C := RX6) (T := TX6) (N := 8) (ref := "SegmentMap") (ci := 7) (v := .ref p3) hC hin_X6 hP z1.1 (cE_6 z1.2) rfl 2 (by decide) fl_X6_corners rfl (by show some (va_rf (S.2.2.1 a0 2)) = _; rw [e4]; rfl) dX6_xNumerator_6 ?_
  refine lv_iload_n hx hb dX6_xNumerator_9 rfl (lv_at hl 1 rfl) ?_
  obtain ⟨z5, h⟩ := ckK_el h
  obtain ⟨t7, e6, h⟩ := cal_el h
  refine c_VA (As := [.int a1]) (rest := []) hC hP hS z5.1 (cE_5 z5.2) (C := RX5) (T := TX5) (N := 7) rfl (m_X5_at l G F S D p3 a1 t7 e6) (cwV 1 hts (gWC wc_89 wc_90 wc_91 wc_92 wc_82) rfl rfl rfl (by decide +kernel) ⟨Nat.le_of_ble_eq_true rfl, Nat.le_of_ble_eq_true rfl⟩) rfl hl.1 rfl (Nat.le_of_ble_eq_true rfl) dX6_xNumerator_10 (fun H locs hP hS => ?_)
  obtain ⟨z8, h⟩ := ckK_el h
  refine c_getN (C := RX2) (T := TX2) (N := 4) (ref := "SegmentMap$Point") (ci := 3) (v := .long (D.2.1 t7 0)) hC hin_X2 hP z8.1 (cE_2 z8.2) rfl 0 (by decide) (nm := "xOver") (ds := "J") (List.mem_of_getElem? (i := 3) rfl) rfl rfl dX6_xNumerator_13 ?_
  refine lv_l2i (v := (D.2.1 t7 0).toInt32) hx hb dX6_xNumerator_16 rfl ?_
  cases h
  exact c_iret hC hP hS rfl dX6_xNumerator_17

theorem dX6_xDenominator_0 : decode cX6_xDenominator 0 = .ok (.aload_n 0, 1) := by decide +kernel
theorem dX6_xDenominator_1 : decode cX6_xDenominator 1 = .ok (.iload_n 1, 1) := by decide +kernel
theorem dX6_xDenominator_2 : decode cX6_xDenominator 2 = .ok (.invokevirtual 117, 3) := by decide +kernel
theorem dX6_xDenominator_5 : decode cX6_xDenominator 5 = .ok (.aload_n 0, 1) := by decide +kernel
theorem dX6_xDenominator_6 : decode cX6_xDenominator 6 = .ok (.getfield 28, 3) := by decide +kernel
theorem dX6_xDenominator_9 : decode cX6_xDenominator 9 = .ok (.iload_n 1, 1) := by decide +kernel
theorem dX6_xDenominator_10 : decode cX6_xDenominator 10 = .ok (.invokevirtual 120, 3) := by decide +kernel
theorem dX6_xDenominator_13 : decode cX6_xDenominator 13 = .ok (.getfield 128, 3) := by decide +kernel
theorem dX6_xDenominator_16 : decode cX6_xDenominator 16 = .ok (.l2i, 1) := by decide +kernel
theorem dX6_xDenominator_17 : decode cX6_xDenominator 17 = .ok (.ireturn, 1) := by decide +kernel
def f_X6_xDenominator (F : Nat) (S : CS) (D : CD) (a0 : Nat) (a1 : Int32) : Option Int32 := ckK S a0 6 <| cal (f_X6_checkVertex F S D a0 a1) fun _ => cal (S.2.2.1 a0 2) fun p3 => ckK S p3 5 <| cal (f_X5_at F S D p3 a1) fun t7 => ckK S t7 2 <| some ((D.2.1 t7 1).toInt32)
set_option maxRecDepth 100000 in
set_option maxHeartbeats 4000000 in
theorem m_X6_xDenominator (l : Launch) (G : cG) (F : Nat) (S : CS) (D : CD) (a0 : Nat) (a1 : Int32) (r : Int32) (h : f_X6_xDenominator F S D a0 a1 = some r) : cMI l yX6_xDenominator vX6_xDenominator ({ frames := 1, cells := 0, slots := 0, locals := 21 }) G S [.ref a0, .int a1] D D r := by
  refine cBodyI (cc := cX6_xDenominator) (maxL := 2) (ret := (some .int)) (own := RX6) (by decide) rfl rfl ?_
  intro sz p e s m below meth c hC hP
  have hC0 := hC
  obtain ⟨hx, hb, -, hts, hown, -, hml, -, -, -⟩ := hC0
  have hS : va_S (cA G S sz) s.heap s.heap [] := va_S.rf
  have hin_X2 : ∀ w ∈ wsX20, w ∈ vX6_xDenominator := fun w h => List.mem_cons_of_mem _ (hWC2 w h)
  have hin_X6 : ∀ w ∈ wsX60, w ∈ vX6_xDenominator := fun w h => List.mem_cons_of_mem _ (hWC6 w h)
  have fl_X6_corners := hts _ (List.mem_cons_of_mem _ wc_74)
  refine m_entry (Nat.le_of_ble_eq_true rfl) (fun ls hl => ?_)
  have hl : lv_has ls 2 [(0, .ref a0), (1, .int a1)] := hl
  unfold f_X6_xDenominator at h
  refine lv_aload_n hx hb dX6_xDenominator_0 rfl (lv_at hl 0 rfl) ?_
  refine lv_iload_n hx hb dX6_xDenominator_1 rfl (lv_at hl 1 rfl) ?_
  obtain ⟨z1, h⟩ := ckK_el h
  obtain ⟨_, e2, h⟩ := cal_el h
  refine c_VV (As := [.int a1]) (rest := []) hC hP hS z1.1 (cE_6 z1.2) (C := RX6) (T := TX6) (N := 8) rfl (m_X6_checkVertex l G F S D a0 a1 e2) (cwV 1 hts (gWC wc_86 wc_87 wc_88 wc_66 wc_81) rfl rfl rfl (by decide +kernel) ⟨Nat.le_of_ble_eq_true rfl, Nat.le_of_ble_eq_true rfl⟩) rfl hl.1 rfl (Nat.le_of_ble_eq_true rfl) dX6_xDenominator_2 (fun H locs hP hS => ?_)
  refine lv_aload_n hx hb dX6_xDenominator_5 rfl (lv_at hl 0 rfl) ?_
  obtain ⟨p3, e4, h⟩ := cal_el h
  refine c_get (C := RX6) (T := TX6) (N := 8) (ref := "SegmentMap") (ci := 7) (v := .ref p3) hC hin_X6 hP z1.1 (cE_6 z1.2) rfl 2 (by decide) fl_X6_corners rfl (by show some (va_rf (S.2.2.1 a0 2)) = _; rw [e4]; rfl) dX6_xDenominator_6 ?_
  refine lv_iload_n hx hb dX6_xDenominator_9 rfl (lv_at hl 1 rfl) ?_
  obtain ⟨z5, h⟩ := ckK_el h
  obtain ⟨t7, e6, h⟩ := cal_el h
  refine c_VA (As := [.int a1]) (rest := []) hC hP hS z5.1 (cE_5 z5.2) (C := RX5) (T := TX5) (N := 7) rfl (m_X5_at l G F S D p3 a1 t7 e6) (cwV 1 hts (gWC wc_89 wc_90 wc_91 wc_92 wc_82) rfl rfl rfl (by decide +kernel) ⟨Nat.le_of_ble_eq_true rfl, Nat.le_of_ble_eq_true rfl⟩) rfl hl.1 rfl (Nat.le_of_ble_eq_true rfl) dX6_xDenominator_10 (fun H locs hP hS => ?_)
  obtain ⟨z8, h⟩ := ckK_el h
  refine c_getN (C := RX2) (T := TX2) (N := 4) (ref := "SegmentMap$Point") (ci := 3) (v := .long (D.2.1 t7 1)) hC hin_X2 hP z8.1 (cE_2 z8.2) rfl 1 (by decide) (nm := "xUnder") (ds := "J") (List.mem_of_getElem? (i := 4) rfl) rfl rfl dX6_xDenominator_13 ?_
  refine lv_l2i (v := (D.2.1 t7 1).toInt32) hx hb dX6_xDenominator_16 rfl ?_
  cases h
  exact c_iret hC hP hS rfl dX6_xDenominator_17

theorem dX6_yNumerator_0 : decode cX6_yNumerator 0 = .ok (.aload_n 0, 1) := by decide +kernel
theorem dX6_yNumerator_1 : decode cX6_yNumerator 1 = .ok (.iload_n 1, 1) := by decide +kernel
theorem dX6_yNumerator_2 : decode cX6_yNumerator 2 = .ok (.invokevirtual 117, 3) := by decide +kernel
theorem dX6_yNumerator_5 : decode cX6_yNumerator 5 = .ok (.aload_n 0, 1) := by decide +kernel
theorem dX6_yNumerator_6 : decode cX6_yNumerator 6 = .ok (.getfield 28, 3) := by decide +kernel
theorem dX6_yNumerator_9 : decode cX6_yNumerator 9 = .ok (.iload_n 1, 1) := by decide +kernel
theorem dX6_yNumerator_10 : decode cX6_yNumerator 10 = .ok (.invokevirtual 120, 3) := by decide +kernel
theorem dX6_yNumerator_13 : decode cX6_yNumerator 13 = .ok (.getfield 131, 3) := by decide +kernel
theorem dX6_yNumerator_16 : decode cX6_yNumerator 16 = .ok (.l2i, 1) := by decide +kernel
theorem dX6_yNumerator_17 : decode cX6_yNumerator 17 = .ok (.ireturn, 1) := by decide +kernel
def f_X6_yNumerator (F : Nat) (S : CS) (D : CD) (a0 : Nat) (a1 : Int32) : Option Int32 := ckK S a0 6 <| cal (f_X6_checkVertex F S D a0 a1) fun _ => cal (S.2.2.1 a0 2) fun p3 => ckK S p3 5 <| cal (f_X5_at F S D p3 a1) fun t7 => ckK S t7 2 <| some ((D.2.1 t7 2).toInt32)
set_option maxRecDepth 100000 in
set_option maxHeartbeats 4000000 in
theorem m_X6_yNumerator (l : Launch) (G : cG) (F : Nat) (S : CS) (D : CD) (a0 : Nat) (a1 : Int32) (r : Int32) (h : f_X6_yNumerator F S D a0 a1 = some r) : cMI l yX6_yNumerator vX6_yNumerator ({ frames := 1, cells := 0, slots := 0, locals := 21 }) G S [.ref a0, .int a1] D D r := by
  refine cBodyI (cc := cX6_yNumerator) (maxL := 2) (ret := (some .int)) (own := RX6) (by decide) rfl rfl ?_
  intro sz p e s m below meth c hC hP
  have hC0 := hC
  obtain ⟨hx, hb, -, hts, hown, -, hml, -, -, -⟩ := hC0
  have hS : va_S (cA G S sz) s.heap s.heap [] := va_S.rf
  have hin_X2 : ∀ w ∈ wsX20, w ∈ vX6_yNumerator := fun w h => List.mem_cons_of_mem _ (hWC2 w h)
  have hin_X6 : ∀ w ∈ wsX60, w ∈ vX6_yNumerator := fun w h => List.mem_cons_of_mem _ (hWC6 w h)
  have fl_X6_corners := hts _ (List.mem_cons_of_mem _ wc_74)
  refine m_entry (Nat.le_of_ble_eq_true rfl) (fun ls hl => ?_)
  have hl : lv_has ls 2 [(0, .ref a0), (1, .int a1)] := hl
  unfold f_X6_yNumerator at h
  refine lv_aload_n hx hb dX6_yNumerator_0 rfl (lv_at hl 0 rfl) ?_
  refine lv_iload_n hx hb dX6_yNumerator_1 rfl (lv_at hl 1 rfl) ?_
  obtain ⟨z1, h⟩ := ckK_el h
  obtain ⟨_, e2, h⟩ := cal_el h
  refine c_VV (As := [.int a1]) (rest := []) hC hP hS z1.1 (cE_6 z1.2) (C := RX6) (T := TX6) (N := 8) rfl (m_X6_checkVertex l G F S D a0 a1 e2) (cwV 1 hts (gWC wc_86 wc_87 wc_88 wc_66 wc_81) rfl rfl rfl (by decide +kernel) ⟨Nat.le_of_ble_eq_true rfl, Nat.le_of_ble_eq_true rfl⟩) rfl hl.1 rfl (Nat.le_of_ble_eq_true rfl) dX6_yNumerator_2 (fun H locs hP hS => ?_)
  refine lv_aload_n hx hb dX6_yNumerator_5 rfl (lv_at hl 0 rfl) ?_
  obtain ⟨p3, e4, h⟩ := cal_el h
  refine c_get (C := RX6) (T := TX6) (N := 8) (ref := "SegmentMap") (ci := 7) (v := .ref p3) hC hin_X6 hP z1.1 (cE_6 z1.2) rfl 2 (by decide) fl_X6_corners rfl (by show some (va_rf (S.2.2.1 a0 2)) = _; rw [e4]; rfl) dX6_yNumerator_6 ?_
  refine lv_iload_n hx hb dX6_yNumerator_9 rfl (lv_at hl 1 rfl) ?_
  obtain ⟨z5, h⟩ := ckK_el h
  obtain ⟨t7, e6, h⟩ := cal_el h
  refine c_VA (As := [.int a1]) (rest := []) hC hP hS z5.1 (cE_5 z5.2) (C := RX5) (T := TX5) (N := 7) rfl (m_X5_at l G F S D p3 a1 t7 e6) (cwV 1 hts (gWC wc_89 wc_90 wc_91 wc_92 wc_82) rfl rfl rfl (by decide +kernel) ⟨Nat.le_of_ble_eq_true rfl, Nat.le_of_ble_eq_true rfl⟩) rfl hl.1 rfl (Nat.le_of_ble_eq_true rfl) dX6_yNumerator_10 (fun H locs hP hS => ?_)
  obtain ⟨z8, h⟩ := ckK_el h
  refine c_getN (C := RX2) (T := TX2) (N := 4) (ref := "SegmentMap$Point") (ci := 3) (v := .long (D.2.1 t7 2)) hC hin_X2 hP z8.1 (cE_2 z8.2) rfl 2 (by decide) (nm := "yOver") (ds := "J") (List.mem_of_getElem? (i := 5) rfl) rfl rfl dX6_yNumerator_13 ?_
  refine lv_l2i (v := (D.2.1 t7 2).toInt32) hx hb dX6_yNumerator_16 rfl ?_
  cases h
  exact c_iret hC hP hS rfl dX6_yNumerator_17

theorem dX6_yDenominator_0 : decode cX6_yDenominator 0 = .ok (.aload_n 0, 1) := by decide +kernel
theorem dX6_yDenominator_1 : decode cX6_yDenominator 1 = .ok (.iload_n 1, 1) := by decide +kernel
theorem dX6_yDenominator_2 : decode cX6_yDenominator 2 = .ok (.invokevirtual 117, 3) := by decide +kernel
theorem dX6_yDenominator_5 : decode cX6_yDenominator 5 = .ok (.aload_n 0, 1) := by decide +kernel
theorem dX6_yDenominator_6 : decode cX6_yDenominator 6 = .ok (.getfield 28, 3) := by decide +kernel
theorem dX6_yDenominator_9 : decode cX6_yDenominator 9 = .ok (.iload_n 1, 1) := by decide +kernel
theorem dX6_yDenominator_10 : decode cX6_yDenominator 10 = .ok (.invokevirtual 120, 3) := by decide +kernel
theorem dX6_yDenominator_13 : decode cX6_yDenominator 13 = .ok (.getfield 134, 3) := by decide +kernel
theorem dX6_yDenominator_16 : decode cX6_yDenominator 16 = .ok (.l2i, 1) := by decide +kernel
theorem dX6_yDenominator_17 : decode cX6_yDenominator 17 = .ok (.ireturn, 1) := by decide +kernel
def f_X6_yDenominator (F : Nat) (S : CS) (D : CD) (a0 : Nat) (a1 : Int32) : Option Int32 := ckK S a0 6 <| cal (f_X6_checkVertex F S D a0 a1) fun _ => cal (S.2.2.1 a0 2) fun p3 => ckK S p3 5 <| cal (f_X5_at F S D p3 a1) fun t7 => ckK S t7 2 <| some ((D.2.1 t7 3).toInt32)
set_option maxRecDepth 100000 in
set_option maxHeartbeats 4000000 in
theorem m_X6_yDenominator (l : Launch) (G : cG) (F : Nat) (S : CS) (D : CD) (a0 : Nat) (a1 : Int32) (r : Int32) (h : f_X6_yDenominator F S D a0 a1 = some r) : cMI l yX6_yDenominator vX6_yDenominator ({ frames := 1, cells := 0, slots := 0, locals := 21 }) G S [.ref a0, .int a1] D D r := by
  refine cBodyI (cc := cX6_yDenominator) (maxL := 2) (ret := (some .int)) (own := RX6) (by decide) rfl rfl ?_
  intro sz p e s m below meth c hC hP
  have hC0 := hC
  obtain ⟨hx, hb, -, hts, hown, -, hml, -, -, -⟩ := hC0
  have hS : va_S (cA G S sz) s.heap s.heap [] := va_S.rf
  have hin_X2 : ∀ w ∈ wsX20, w ∈ vX6_yDenominator := fun w h => List.mem_cons_of_mem _ (hWC2 w h)
  have hin_X6 : ∀ w ∈ wsX60, w ∈ vX6_yDenominator := fun w h => List.mem_cons_of_mem _ (hWC6 w h)
  have fl_X6_corners := hts _ (List.mem_cons_of_mem _ wc_74)
  refine m_entry (Nat.le_of_ble_eq_true rfl) (fun ls hl => ?_)
  have hl : lv_has ls 2 [(0, .ref a0), (1, .int a1)] := hl
  unfold f_X6_yDenominator at h
  refine lv_aload_n hx hb dX6_yDenominator_0 rfl (lv_at hl 0 rfl) ?_
  refine lv_iload_n hx hb dX6_yDenominator_1 rfl (lv_at hl 1 rfl) ?_
  obtain ⟨z1, h⟩ := ckK_el h
  obtain ⟨_, e2, h⟩ := cal_el h
  refine c_VV (As := [.int a1]) (rest := []) hC hP hS z1.1 (cE_6 z1.2) (C := RX6) (T := TX6) (N := 8) rfl (m_X6_checkVertex l G F S D a0 a1 e2) (cwV 1 hts (gWC wc_86 wc_87 wc_88 wc_66 wc_81) rfl rfl rfl (by decide +kernel) ⟨Nat.le_of_ble_eq_true rfl, Nat.le_of_ble_eq_true rfl⟩) rfl hl.1 rfl (Nat.le_of_ble_eq_true rfl) dX6_yDenominator_2 (fun H locs hP hS => ?_)
  refine lv_aload_n hx hb dX6_yDenominator_5 rfl (lv_at hl 0 rfl) ?_
  obtain ⟨p3, e4, h⟩ := cal_el h
  refine c_get (C := RX6) (T := TX6) (N := 8) (ref := "SegmentMap") (ci := 7) (v := .ref p3) hC hin_X6 hP z1.1 (cE_6 z1.2) rfl 2 (by decide) fl_X6_corners rfl (by show some (va_rf (S.2.2.1 a0 2)) = _; rw [e4]; rfl) dX6_yDenominator_6 ?_
  refine lv_iload_n hx hb dX6_yDenominator_9 rfl (lv_at hl 1 rfl) ?_
  obtain ⟨z5, h⟩ := ckK_el h
  obtain ⟨t7, e6, h⟩ := cal_el h
  refine c_VA (As := [.int a1]) (rest := []) hC hP hS z5.1 (cE_5 z5.2) (C := RX5) (T := TX5) (N := 7) rfl (m_X5_at l G F S D p3 a1 t7 e6) (cwV 1 hts (gWC wc_89 wc_90 wc_91 wc_92 wc_82) rfl rfl rfl (by decide +kernel) ⟨Nat.le_of_ble_eq_true rfl, Nat.le_of_ble_eq_true rfl⟩) rfl hl.1 rfl (Nat.le_of_ble_eq_true rfl) dX6_yDenominator_10 (fun H locs hP hS => ?_)
  obtain ⟨z8, h⟩ := ckK_el h
  refine c_getN (C := RX2) (T := TX2) (N := 4) (ref := "SegmentMap$Point") (ci := 3) (v := .long (D.2.1 t7 3)) hC hin_X2 hP z8.1 (cE_2 z8.2) rfl 3 (by decide) (nm := "yUnder") (ds := "J") (List.mem_of_getElem? (i := 6) rfl) rfl rfl dX6_yDenominator_13 ?_
  refine lv_l2i (v := (D.2.1 t7 3).toInt32) hx hb dX6_yDenominator_16 rfl ?_
  cases h
  exact c_iret hC hP hS rfl dX6_yDenominator_17

theorem dX3_get_0 : decode cX3_get 0 = .ok (.iload_n 1, 1) := by decide +kernel
theorem dX3_get_1 : decode cX3_get 1 = .ok (.ifCond .lt 21, 3) := by decide +kernel
theorem dX3_get_4 : decode cX3_get 4 = .ok (.iload_n 1, 1) := by decide +kernel
theorem dX3_get_5 : decode cX3_get 5 = .ok (.aload_n 0, 1) := by decide +kernel
theorem dX3_get_6 : decode cX3_get 6 = .ok (.getfield 9, 3) := by decide +kernel
theorem dX3_get_9 : decode cX3_get 9 = .ok (.arraylength, 1) := by decide +kernel
theorem dX3_get_10 : decode cX3_get 10 = .ok (.if_icmp .ge 12, 3) := by decide +kernel
theorem dX3_get_13 : decode cX3_get 13 = .ok (.aload_n 0, 1) := by decide +kernel
theorem dX3_get_14 : decode cX3_get 14 = .ok (.getfield 9, 3) := by decide +kernel
theorem dX3_get_17 : decode cX3_get 17 = .ok (.iload_n 1, 1) := by decide +kernel
theorem dX3_get_18 : decode cX3_get 18 = .ok (.iaload, 1) := by decide +kernel
theorem dX3_get_19 : decode cX3_get 19 = .ok (.goto 4, 3) := by decide +kernel
theorem dX3_get_22 : decode cX3_get 22 = .ok (.iconst (-1), 1) := by decide +kernel
theorem dX3_get_23 : decode cX3_get 23 = .ok (.ireturn, 1) := by decide +kernel
def f_X3_get (F : Nat) (S : CS) (D : CD) (a0 : Nat) (a1 : Int32) : Option Int32 := (if a1 < 0 then some ((-1)) else ckK S a0 3 <| cal (S.2.2.1 a0 0) fun p3 => ckK S p3 8 <| (if (Int32.ofNat (S.2.2.2 p3)) ≤ a1 then some ((-1)) else cal (S.2.2.1 a0 0) fun p7 => ckK S p7 8 <| rdI (S.2.2.2 p7) (D.2.2.1 p7) a1 fun t10 => some t10))
set_option maxRecDepth 100000 in
set_option maxHeartbeats 4000000 in
theorem m_X3_get (l : Launch) (G : cG) (F : Nat) (S : CS) (D : CD) (a0 : Nat) (a1 : Int32) (r : Int32) (h : f_X3_get F S D a0 a1 = some r) : cMI l yX3_get vX3_get ({ frames := 0, cells := 0, slots := 0, locals := 0 }) G S [.ref a0, .int a1] D D r := by
  refine cBodyI (cc := cX3_get) (maxL := 2) (ret := (some .int)) (own := RX3) (by decide) rfl rfl ?_
  intro sz p e s m below meth c hC hP
  have hC0 := hC
  obtain ⟨hx, hb, -, hts, hown, -, hml, -, -, -⟩ := hC0
  have hS : va_S (cA G S sz) s.heap s.heap [] := va_S.rf
  have hin_X3 : ∀ w ∈ wsX30, w ∈ vX3_get := fun w h => List.mem_cons_of_mem _ (hWC3 w h)
  have fl_X3_cells := hts _ (List.mem_cons_of_mem _ wc_97)
  refine m_entry (Nat.le_of_ble_eq_true rfl) (fun ls hl => ?_)
  have hl : lv_has ls 2 [(0, .ref a0), (1, .int a1)] := hl
  unfold f_X3_get at h
  refine lv_iload_n hx hb dX3_get_0 rfl (lv_at hl 1 rfl) ?_
  refine lv_if_lt (tgt := 22) hx hb dX3_get_1 (by decide) (fun u1 => ?_) (fun u1 => ?_)
  · have h := ite_t u1 h
    refine lv_iconst (v := (-1)) hx hb dX3_get_22 (by decide) ?_
    cases h
    exact c_iret hC hP hS rfl dX3_get_23
  · have h := ite_f u1 h
    refine lv_iload_n hx hb dX3_get_4 rfl (lv_at hl 1 rfl) ?_
    refine lv_aload_n hx hb dX3_get_5 rfl (lv_at hl 0 rfl) ?_
    obtain ⟨z2, h⟩ := ckK_el h
    obtain ⟨p3, e4, h⟩ := cal_el h
    refine c_get (C := RX3) (T := TX3) (N := 1) (ref := "SegmentMap$Row") (ci := 4) (v := .ref p3) hC hin_X3 hP z2.1 (cE_3 z2.2) rfl 0 (by decide) fl_X3_cells rfl (by show some (va_rf (S.2.2.1 a0 0)) = _; rw [e4]; rfl) dX3_get_6 ?_
    obtain ⟨z5, h⟩ := ckK_el h
    refine c_alen hC hP z5.1 (by omega) (by omega) dX3_get_9 ?_
    refine lv_icmp_ge (tgt := 22) hx hb dX3_get_10 (by decide) (fun u6 => ?_) (fun u6 => ?_)
    · have h := ite_t u6 h
      refine lv_iconst (v := (-1)) hx hb dX3_get_22 (by decide) ?_
      cases h
      exact c_iret hC hP hS rfl dX3_get_23
    · have h := ite_f u6 h
      refine lv_aload_n hx hb dX3_get_13 rfl (lv_at hl 0 rfl) ?_
      obtain ⟨p7, e8, h⟩ := cal_el h
      refine c_get (C := RX3) (T := TX3) (N := 1) (ref := "SegmentMap$Row") (ci := 4) (v := .ref p7) hC hin_X3 hP z2.1 (cE_3 z2.2) rfl 0 (by decide) fl_X3_cells rfl (by show some (va_rf (S.2.2.1 a0 0)) = _; rw [e8]; rfl) dX3_get_14 ?_
      refine lv_iload_n hx hb dX3_get_17 rfl (lv_at hl 1 rfl) ?_
      obtain ⟨z9, h⟩ := ckK_el h
      obtain ⟨y11, t10, e12, h⟩ := rdI_el h
      refine c_ild hC hP z9.1 z9.2 y11 e12 dX3_get_18 ?_
      refine lv_goto (tgt := 23) hx hb dX3_get_19 (by decide) ?_
      cases h
      exact c_iret hC hP hS rfl dX3_get_23

theorem dX6_degree_0 : decode cX6_degree 0 = .ok (.aload_n 0, 1) := by decide +kernel
theorem dX6_degree_1 : decode cX6_degree 1 = .ok (.iload_n 1, 1) := by decide +kernel
theorem dX6_degree_2 : decode cX6_degree 2 = .ok (.invokevirtual 117, 3) := by decide +kernel
theorem dX6_degree_5 : decode cX6_degree 5 = .ok (.aload_n 0, 1) := by decide +kernel
theorem dX6_degree_6 : decode cX6_degree 6 = .ok (.getfield 28, 3) := by decide +kernel
theorem dX6_degree_9 : decode cX6_degree 9 = .ok (.getfield 137, 3) := by decide +kernel
theorem dX6_degree_12 : decode cX6_degree 12 = .ok (.iload_n 1, 1) := by decide +kernel
theorem dX6_degree_13 : decode cX6_degree 13 = .ok (.invokevirtual 140, 3) := by decide +kernel
theorem dX6_degree_16 : decode cX6_degree 16 = .ok (.ireturn, 1) := by decide +kernel
def f_X6_degree (F : Nat) (S : CS) (D : CD) (a0 : Nat) (a1 : Int32) : Option Int32 := ckK S a0 6 <| cal (f_X6_checkVertex F S D a0 a1) fun _ => cal (S.2.2.1 a0 2) fun p3 => ckK S p3 5 <| cal (S.2.2.1 p3 2) fun p6 => ckK S p6 3 <| cal (f_X3_get F S D p6 a1) fun t10 => some t10
set_option maxRecDepth 100000 in
set_option maxHeartbeats 4000000 in
theorem m_X6_degree (l : Launch) (G : cG) (F : Nat) (S : CS) (D : CD) (a0 : Nat) (a1 : Int32) (r : Int32) (h : f_X6_degree F S D a0 a1 = some r) : cMI l yX6_degree vX6_degree ({ frames := 1, cells := 0, slots := 0, locals := 21 }) G S [.ref a0, .int a1] D D r := by
  refine cBodyI (cc := cX6_degree) (maxL := 2) (ret := (some .int)) (own := RX6) (by decide) rfl rfl ?_
  intro sz p e s m below meth c hC hP
  have hC0 := hC
  obtain ⟨hx, hb, -, hts, hown, -, hml, -, -, -⟩ := hC0
  have hS : va_S (cA G S sz) s.heap s.heap [] := va_S.rf
  have hin_X5 : ∀ w ∈ wsX50, w ∈ vX6_degree := fun w h => List.mem_cons_of_mem _ (hWC5 w h)
  have hin_X6 : ∀ w ∈ wsX60, w ∈ vX6_degree := fun w h => List.mem_cons_of_mem _ (hWC6 w h)
  have fl_X6_corners := hts _ (List.mem_cons_of_mem _ wc_74)
  refine m_entry (Nat.le_of_ble_eq_true rfl) (fun ls hl => ?_)
  have hl : lv_has ls 2 [(0, .ref a0), (1, .int a1)] := hl
  unfold f_X6_degree at h
  refine lv_aload_n hx hb dX6_degree_0 rfl (lv_at hl 0 rfl) ?_
  refine lv_iload_n hx hb dX6_degree_1 rfl (lv_at hl 1 rfl) ?_
  obtain ⟨z1, h⟩ := ckK_el h
  obtain ⟨_, e2, h⟩ := cal_el h
  refine c_VV (As := [.int a1]) (rest := []) hC hP hS z1.1 (cE_6 z1.2) (C := RX6) (T := TX6) (N := 8) rfl (m_X6_checkVertex l G F S D a0 a1 e2) (cwV 1 hts (gWC wc_86 wc_87 wc_88 wc_66 wc_81) rfl rfl rfl (by decide +kernel) ⟨Nat.le_of_ble_eq_true rfl, Nat.le_of_ble_eq_true rfl⟩) rfl hl.1 rfl (Nat.le_of_ble_eq_true rfl) dX6_degree_2 (fun H locs hP hS => ?_)
  refine lv_aload_n hx hb dX6_degree_5 rfl (lv_at hl 0 rfl) ?_
  obtain ⟨p3, e4, h⟩ := cal_el h
  refine c_get (C := RX6) (T := TX6) (N := 8) (ref := "SegmentMap") (ci := 7) (v := .ref p3) hC hin_X6 hP z1.1 (cE_6 z1.2) rfl 2 (by decide) fl_X6_corners rfl (by show some (va_rf (S.2.2.1 a0 2)) = _; rw [e4]; rfl) dX6_degree_6 ?_
  obtain ⟨z5, h⟩ := ckK_el h
  obtain ⟨p6, e7, h⟩ := cal_el h
  refine c_getN (C := RX5) (T := TX5) (N := 7) (ref := "SegmentMap$Vertices") (ci := 6) (v := .ref p6) hC hin_X5 hP z5.1 (cE_5 z5.2) rfl 2 (by decide) (nm := "outgoing") (ds := "LSegmentMap$Row;") (List.mem_of_getElem? (i := 7) rfl) rfl (by show some (va_rf (S.2.2.1 p3 2)) = _; rw [e7]; rfl) dX6_degree_9 ?_
  refine lv_iload_n hx hb dX6_degree_12 rfl (lv_at hl 1 rfl) ?_
  obtain ⟨z8, h⟩ := ckK_el h
  obtain ⟨t10, e9, h⟩ := cal_el h
  refine c_VI (As := [.int a1]) (rest := []) hC hP hS z8.1 (cE_3 z8.2) (C := RX3) (T := TX3) (N := 1) rfl (m_X3_get l G F S D p6 a1 t10 e9) (cwV 1 hts (gWC wc_99 wc_100 wc_101 wc_102 wc_96) rfl rfl rfl (by decide +kernel) ⟨Nat.le_of_ble_eq_true rfl, Nat.le_of_ble_eq_true rfl⟩) rfl hl.1 rfl (Nat.le_of_ble_eq_true rfl) dX6_degree_13 (fun H locs hP hS => ?_)
  cases h
  exact c_iret hC hP hS rfl dX6_degree_16

theorem dX6_checkEdge_0 : decode cX6_checkEdge 0 = .ok (.iload_n 1, 1) := by decide +kernel
theorem dX6_checkEdge_1 : decode cX6_checkEdge 1 = .ok (.ifCond .lt 14, 3) := by decide +kernel
theorem dX6_checkEdge_4 : decode cX6_checkEdge 4 = .ok (.iload_n 1, 1) := by decide +kernel
theorem dX6_checkEdge_5 : decode cX6_checkEdge 5 = .ok (.aload_n 0, 1) := by decide +kernel
theorem dX6_checkEdge_6 : decode cX6_checkEdge 6 = .ok (.getfield 35, 3) := by decide +kernel
theorem dX6_checkEdge_9 : decode cX6_checkEdge 9 = .ok (.getfield 112, 3) := by decide +kernel
theorem dX6_checkEdge_12 : decode cX6_checkEdge 12 = .ok (.if_icmp .lt 13, 3) := by decide +kernel
theorem dX6_checkEdge_15 : decode cX6_checkEdge 15 = .ok (.new 190, 3) := by decide +kernel
theorem dX6_checkEdge_18 : decode cX6_checkEdge 18 = .ok (.dup, 1) := by decide +kernel
theorem dX6_checkEdge_19 : decode cX6_checkEdge 19 = .ok (.ldc 213, 2) := by decide +kernel
theorem dX6_checkEdge_21 : decode cX6_checkEdge 21 = .ok (.invokespecial 194, 3) := by decide +kernel
theorem dX6_checkEdge_24 : decode cX6_checkEdge 24 = .ok (.athrow, 1) := by decide +kernel
theorem dX6_checkEdge_25 : decode cX6_checkEdge 25 = .ok (.return_, 1) := by decide +kernel
def f_X6_checkEdge (F : Nat) (S : CS) (D : CD) (a0 : Nat) (a1 : Int32) : Option Unit := (if a1 < 0 then none else ckK S a0 6 <| cal (S.2.2.1 a0 3) fun p3 => ckK S p3 0 <| (if a1 < (D.1 p3 5) then some () else none))
set_option maxRecDepth 100000 in
set_option maxHeartbeats 4000000 in
theorem m_X6_checkEdge (l : Launch) (G : cG) (F : Nat) (S : CS) (D : CD) (a0 : Nat) (a1 : Int32) (h : f_X6_checkEdge F S D a0 a1 = some ()) : cMV l yX6_checkEdge vX6_checkEdge ({ frames := 0, cells := 0, slots := 0, locals := 0 }) G S [.ref a0, .int a1] D D := by
  refine cBodyV (cc := cX6_checkEdge) (maxL := 2) (ret := none) (own := RX6) (by decide) rfl rfl ?_
  intro sz p e s m below meth c hC hP
  have hC0 := hC
  obtain ⟨hx, hb, -, hts, hown, -, hml, -, -, -⟩ := hC0
  have hS : va_S (cA G S sz) s.heap s.heap [] := va_S.rf
  have hin_X0 : ∀ w ∈ wsX00, w ∈ vX6_checkEdge := fun w h => List.mem_cons_of_mem _ (hWC0 w h)
  have hin_X6 : ∀ w ∈ wsX60, w ∈ vX6_checkEdge := fun w h => List.mem_cons_of_mem _ (hWC6 w h)
  have fl_X6_pieces := hts _ (List.mem_cons_of_mem _ wc_76)
  refine m_entry (Nat.le_of_ble_eq_true rfl) (fun ls hl => ?_)
  have hl : lv_has ls 2 [(0, .ref a0), (1, .int a1)] := hl
  unfold f_X6_checkEdge at h
  refine lv_iload_n hx hb dX6_checkEdge_0 rfl (lv_at hl 1 rfl) ?_
  refine lv_if_lt (tgt := 15) hx hb dX6_checkEdge_1 (by decide) (fun u1 => ?_) (fun u1 => ?_)
  · have h := ite_t u1 h
    cases h
  · have h := ite_f u1 h
    refine lv_iload_n hx hb dX6_checkEdge_4 rfl (lv_at hl 1 rfl) ?_
    refine lv_aload_n hx hb dX6_checkEdge_5 rfl (lv_at hl 0 rfl) ?_
    obtain ⟨z2, h⟩ := ckK_el h
    obtain ⟨p3, e4, h⟩ := cal_el h
    refine c_get (C := RX6) (T := TX6) (N := 8) (ref := "SegmentMap") (ci := 7) (v := .ref p3) hC hin_X6 hP z2.1 (cE_6 z2.2) rfl 3 (by decide) fl_X6_pieces rfl (by show some (va_rf (S.2.2.1 a0 3)) = _; rw [e4]; rfl) dX6_checkEdge_6 ?_
    obtain ⟨z5, h⟩ := ckK_el h
    refine c_getN (C := RX0) (T := TX0) (N := 6) (ref := "SegmentMap$Edges") (ci := 1) (v := .int (D.1 p3 5)) hC hin_X0 hP z5.1 (cE_0 z5.2) rfl 5 (by decide) (nm := "count") (ds := "I") (List.mem_of_getElem? (i := 1) rfl) rfl rfl dX6_checkEdge_9 ?_
    refine lv_icmp_lt (tgt := 25) hx hb dX6_checkEdge_12 (by decide) (fun u6 => ?_) (fun u6 => ?_)
    · have h := ite_t u6 h
      cases h
      exact c_vret hC hP hS dX6_checkEdge_25
    · have h := ite_f u6 h
      cases h

theorem dX6_segmentOf_0 : decode cX6_segmentOf 0 = .ok (.aload_n 0, 1) := by decide +kernel
theorem dX6_segmentOf_1 : decode cX6_segmentOf 1 = .ok (.iload_n 1, 1) := by decide +kernel
theorem dX6_segmentOf_2 : decode cX6_segmentOf 2 = .ok (.invokevirtual 144, 3) := by decide +kernel
theorem dX6_segmentOf_5 : decode cX6_segmentOf 5 = .ok (.aload_n 0, 1) := by decide +kernel
theorem dX6_segmentOf_6 : decode cX6_segmentOf 6 = .ok (.getfield 35, 3) := by decide +kernel
theorem dX6_segmentOf_9 : decode cX6_segmentOf 9 = .ok (.getfield 147, 3) := by decide +kernel
theorem dX6_segmentOf_12 : decode cX6_segmentOf 12 = .ok (.iload_n 1, 1) := by decide +kernel
theorem dX6_segmentOf_13 : decode cX6_segmentOf 13 = .ok (.invokevirtual 140, 3) := by decide +kernel
theorem dX6_segmentOf_16 : decode cX6_segmentOf 16 = .ok (.ireturn, 1) := by decide +kernel
def f_X6_segmentOf (F : Nat) (S : CS) (D : CD) (a0 : Nat) (a1 : Int32) : Option Int32 := ckK S a0 6 <| cal (f_X6_checkEdge F S D a0 a1) fun _ => cal (S.2.2.1 a0 3) fun p3 => ckK S p3 0 <| cal (S.2.2.1 p3 0) fun p6 => ckK S p6 3 <| cal (f_X3_get F S D p6 a1) fun t10 => some t10
set_option maxRecDepth 100000 in
set_option maxHeartbeats 4000000 in
theorem m_X6_segmentOf (l : Launch) (G : cG) (F : Nat) (S : CS) (D : CD) (a0 : Nat) (a1 : Int32) (r : Int32) (h : f_X6_segmentOf F S D a0 a1 = some r) : cMI l yX6_segmentOf vX6_segmentOf ({ frames := 1, cells := 0, slots := 0, locals := 21 }) G S [.ref a0, .int a1] D D r := by
  refine cBodyI (cc := cX6_segmentOf) (maxL := 2) (ret := (some .int)) (own := RX6) (by decide) rfl rfl ?_
  intro sz p e s m below meth c hC hP
  have hC0 := hC
  obtain ⟨hx, hb, -, hts, hown, -, hml, -, -, -⟩ := hC0
  have hS : va_S (cA G S sz) s.heap s.heap [] := va_S.rf
  have hin_X0 : ∀ w ∈ wsX00, w ∈ vX6_segmentOf := fun w h => List.mem_cons_of_mem _ (hWC0 w h)
  have hin_X6 : ∀ w ∈ wsX60, w ∈ vX6_segmentOf := fun w h => List.mem_cons_of_mem _ (hWC6 w h)
  have fl_X6_pieces := hts _ (List.mem_cons_of_mem _ wc_76)
  refine m_entry (Nat.le_of_ble_eq_true rfl) (fun ls hl => ?_)
  have hl : lv_has ls 2 [(0, .ref a0), (1, .int a1)] := hl
  unfold f_X6_segmentOf at h
  refine lv_aload_n hx hb dX6_segmentOf_0 rfl (lv_at hl 0 rfl) ?_
  refine lv_iload_n hx hb dX6_segmentOf_1 rfl (lv_at hl 1 rfl) ?_
  obtain ⟨z1, h⟩ := ckK_el h
  obtain ⟨_, e2, h⟩ := cal_el h
  refine c_VV (As := [.int a1]) (rest := []) hC hP hS z1.1 (cE_6 z1.2) (C := RX6) (T := TX6) (N := 8) rfl (m_X6_checkEdge l G F S D a0 a1 e2) (cwV 1 hts (gWC wc_105 wc_106 wc_107 wc_66 wc_103) rfl rfl rfl (by decide +kernel) ⟨Nat.le_of_ble_eq_true rfl, Nat.le_of_ble_eq_true rfl⟩) rfl hl.1 rfl (Nat.le_of_ble_eq_true rfl) dX6_segmentOf_2 (fun H locs hP hS => ?_)
  refine lv_aload_n hx hb dX6_segmentOf_5 rfl (lv_at hl 0 rfl) ?_
  obtain ⟨p3, e4, h⟩ := cal_el h
  refine c_get (C := RX6) (T := TX6) (N := 8) (ref := "SegmentMap") (ci := 7) (v := .ref p3) hC hin_X6 hP z1.1 (cE_6 z1.2) rfl 3 (by decide) fl_X6_pieces rfl (by show some (va_rf (S.2.2.1 a0 3)) = _; rw [e4]; rfl) dX6_segmentOf_6 ?_
  obtain ⟨z5, h⟩ := ckK_el h
  obtain ⟨p6, e7, h⟩ := cal_el h
  refine c_getN (C := RX0) (T := TX0) (N := 6) (ref := "SegmentMap$Edges") (ci := 1) (v := .ref p6) hC hin_X0 hP z5.1 (cE_0 z5.2) rfl 0 (by decide) (nm := "line") (ds := "LSegmentMap$Row;") (List.mem_of_getElem? (i := 8) rfl) rfl (by show some (va_rf (S.2.2.1 p3 0)) = _; rw [e7]; rfl) dX6_segmentOf_9 ?_
  refine lv_iload_n hx hb dX6_segmentOf_12 rfl (lv_at hl 1 rfl) ?_
  obtain ⟨z8, h⟩ := ckK_el h
  obtain ⟨t10, e9, h⟩ := cal_el h
  refine c_VI (As := [.int a1]) (rest := []) hC hP hS z8.1 (cE_3 z8.2) (C := RX3) (T := TX3) (N := 1) rfl (m_X3_get l G F S D p6 a1 t10 e9) (cwV 1 hts (gWC wc_99 wc_100 wc_101 wc_102 wc_96) rfl rfl rfl (by decide +kernel) ⟨Nat.le_of_ble_eq_true rfl, Nat.le_of_ble_eq_true rfl⟩) rfl hl.1 rfl (Nat.le_of_ble_eq_true rfl) dX6_segmentOf_13 (fun H locs hP hS => ?_)
  cases h
  exact c_iret hC hP hS rfl dX6_segmentOf_16

theorem dX6_from_0 : decode cX6_from 0 = .ok (.aload_n 0, 1) := by decide +kernel
theorem dX6_from_1 : decode cX6_from 1 = .ok (.iload_n 1, 1) := by decide +kernel
theorem dX6_from_2 : decode cX6_from 2 = .ok (.invokevirtual 144, 3) := by decide +kernel
theorem dX6_from_5 : decode cX6_from 5 = .ok (.aload_n 0, 1) := by decide +kernel
theorem dX6_from_6 : decode cX6_from 6 = .ok (.getfield 35, 3) := by decide +kernel
theorem dX6_from_9 : decode cX6_from 9 = .ok (.getfield 150, 3) := by decide +kernel
theorem dX6_from_12 : decode cX6_from 12 = .ok (.iload_n 1, 1) := by decide +kernel
theorem dX6_from_13 : decode cX6_from 13 = .ok (.invokevirtual 140, 3) := by decide +kernel
theorem dX6_from_16 : decode cX6_from 16 = .ok (.ireturn, 1) := by decide +kernel
def f_X6_from (F : Nat) (S : CS) (D : CD) (a0 : Nat) (a1 : Int32) : Option Int32 := ckK S a0 6 <| cal (f_X6_checkEdge F S D a0 a1) fun _ => cal (S.2.2.1 a0 3) fun p3 => ckK S p3 0 <| cal (S.2.2.1 p3 1) fun p6 => ckK S p6 3 <| cal (f_X3_get F S D p6 a1) fun t10 => some t10
set_option maxRecDepth 100000 in
set_option maxHeartbeats 4000000 in
theorem m_X6_from (l : Launch) (G : cG) (F : Nat) (S : CS) (D : CD) (a0 : Nat) (a1 : Int32) (r : Int32) (h : f_X6_from F S D a0 a1 = some r) : cMI l yX6_from vX6_from ({ frames := 1, cells := 0, slots := 0, locals := 21 }) G S [.ref a0, .int a1] D D r := by
  refine cBodyI (cc := cX6_from) (maxL := 2) (ret := (some .int)) (own := RX6) (by decide) rfl rfl ?_
  intro sz p e s m below meth c hC hP
  have hC0 := hC
  obtain ⟨hx, hb, -, hts, hown, -, hml, -, -, -⟩ := hC0
  have hS : va_S (cA G S sz) s.heap s.heap [] := va_S.rf
  have hin_X0 : ∀ w ∈ wsX00, w ∈ vX6_from := fun w h => List.mem_cons_of_mem _ (hWC0 w h)
  have hin_X6 : ∀ w ∈ wsX60, w ∈ vX6_from := fun w h => List.mem_cons_of_mem _ (hWC6 w h)
  have fl_X6_pieces := hts _ (List.mem_cons_of_mem _ wc_76)
  refine m_entry (Nat.le_of_ble_eq_true rfl) (fun ls hl => ?_)
  have hl : lv_has ls 2 [(0, .ref a0), (1, .int a1)] := hl
  unfold f_X6_from at h
  refine lv_aload_n hx hb dX6_from_0 rfl (lv_at hl 0 rfl) ?_
  refine lv_iload_n hx hb dX6_from_1 rfl (lv_at hl 1 rfl) ?_
  obtain ⟨z1, h⟩ := ckK_el h
  obtain ⟨_, e2, h⟩ := cal_el h
  refine c_VV (As := [.int a1]) (rest := []) hC hP hS z1.1 (cE_6 z1.2) (C := RX6) (T := TX6) (N := 8) rfl (m_X6_checkEdge l G F S D a0 a1 e2) (cwV 1 hts (gWC wc_105 wc_106 wc_107 wc_66 wc_103) rfl rfl rfl (by decide +kernel) ⟨Nat.le_of_ble_eq_true rfl, Nat.le_of_ble_eq_true rfl⟩) rfl hl.1 rfl (Nat.le_of_ble_eq_true rfl) dX6_from_2 (fun H locs hP hS => ?_)
  refine lv_aload_n hx hb dX6_from_5 rfl (lv_at hl 0 rfl) ?_
  obtain ⟨p3, e4, h⟩ := cal_el h
  refine c_get (C := RX6) (T := TX6) (N := 8) (ref := "SegmentMap") (ci := 7) (v := .ref p3) hC hin_X6 hP z1.1 (cE_6 z1.2) rfl 3 (by decide) fl_X6_pieces rfl (by show some (va_rf (S.2.2.1 a0 3)) = _; rw [e4]; rfl) dX6_from_6 ?_
  obtain ⟨z5, h⟩ := ckK_el h
  obtain ⟨p6, e7, h⟩ := cal_el h
  refine c_getN (C := RX0) (T := TX0) (N := 6) (ref := "SegmentMap$Edges") (ci := 1) (v := .ref p6) hC hin_X0 hP z5.1 (cE_0 z5.2) rfl 1 (by decide) (nm := "start") (ds := "LSegmentMap$Row;") (List.mem_of_getElem? (i := 9) rfl) rfl (by show some (va_rf (S.2.2.1 p3 1)) = _; rw [e7]; rfl) dX6_from_9 ?_
  refine lv_iload_n hx hb dX6_from_12 rfl (lv_at hl 1 rfl) ?_
  obtain ⟨z8, h⟩ := ckK_el h
  obtain ⟨t10, e9, h⟩ := cal_el h
  refine c_VI (As := [.int a1]) (rest := []) hC hP hS z8.1 (cE_3 z8.2) (C := RX3) (T := TX3) (N := 1) rfl (m_X3_get l G F S D p6 a1 t10 e9) (cwV 1 hts (gWC wc_99 wc_100 wc_101 wc_102 wc_96) rfl rfl rfl (by decide +kernel) ⟨Nat.le_of_ble_eq_true rfl, Nat.le_of_ble_eq_true rfl⟩) rfl hl.1 rfl (Nat.le_of_ble_eq_true rfl) dX6_from_13 (fun H locs hP hS => ?_)
  cases h
  exact c_iret hC hP hS rfl dX6_from_16

theorem dX6_to_0 : decode cX6_to 0 = .ok (.aload_n 0, 1) := by decide +kernel
theorem dX6_to_1 : decode cX6_to 1 = .ok (.iload_n 1, 1) := by decide +kernel
theorem dX6_to_2 : decode cX6_to 2 = .ok (.invokevirtual 144, 3) := by decide +kernel
theorem dX6_to_5 : decode cX6_to 5 = .ok (.aload_n 0, 1) := by decide +kernel
theorem dX6_to_6 : decode cX6_to 6 = .ok (.getfield 35, 3) := by decide +kernel
theorem dX6_to_9 : decode cX6_to 9 = .ok (.getfield 153, 3) := by decide +kernel
theorem dX6_to_12 : decode cX6_to 12 = .ok (.iload_n 1, 1) := by decide +kernel
theorem dX6_to_13 : decode cX6_to 13 = .ok (.invokevirtual 140, 3) := by decide +kernel
theorem dX6_to_16 : decode cX6_to 16 = .ok (.ireturn, 1) := by decide +kernel
def f_X6_to (F : Nat) (S : CS) (D : CD) (a0 : Nat) (a1 : Int32) : Option Int32 := ckK S a0 6 <| cal (f_X6_checkEdge F S D a0 a1) fun _ => cal (S.2.2.1 a0 3) fun p3 => ckK S p3 0 <| cal (S.2.2.1 p3 2) fun p6 => ckK S p6 3 <| cal (f_X3_get F S D p6 a1) fun t10 => some t10
set_option maxRecDepth 100000 in
set_option maxHeartbeats 4000000 in
theorem m_X6_to (l : Launch) (G : cG) (F : Nat) (S : CS) (D : CD) (a0 : Nat) (a1 : Int32) (r : Int32) (h : f_X6_to F S D a0 a1 = some r) : cMI l yX6_to vX6_to ({ frames := 1, cells := 0, slots := 0, locals := 21 }) G S [.ref a0, .int a1] D D r := by
  refine cBodyI (cc := cX6_to) (maxL := 2) (ret := (some .int)) (own := RX6) (by decide) rfl rfl ?_
  intro sz p e s m below meth c hC hP
  have hC0 := hC
  obtain ⟨hx, hb, -, hts, hown, -, hml, -, -, -⟩ := hC0
  have hS : va_S (cA G S sz) s.heap s.heap [] := va_S.rf
  have hin_X0 : ∀ w ∈ wsX00, w ∈ vX6_to := fun w h => List.mem_cons_of_mem _ (hWC0 w h)
  have hin_X6 : ∀ w ∈ wsX60, w ∈ vX6_to := fun w h => List.mem_cons_of_mem _ (hWC6 w h)
  have fl_X6_pieces := hts _ (List.mem_cons_of_mem _ wc_76)
  refine m_entry (Nat.le_of_ble_eq_true rfl) (fun ls hl => ?_)
  have hl : lv_has ls 2 [(0, .ref a0), (1, .int a1)] := hl
  unfold f_X6_to at h
  refine lv_aload_n hx hb dX6_to_0 rfl (lv_at hl 0 rfl) ?_
  refine lv_iload_n hx hb dX6_to_1 rfl (lv_at hl 1 rfl) ?_
  obtain ⟨z1, h⟩ := ckK_el h
  obtain ⟨_, e2, h⟩ := cal_el h
  refine c_VV (As := [.int a1]) (rest := []) hC hP hS z1.1 (cE_6 z1.2) (C := RX6) (T := TX6) (N := 8) rfl (m_X6_checkEdge l G F S D a0 a1 e2) (cwV 1 hts (gWC wc_105 wc_106 wc_107 wc_66 wc_103) rfl rfl rfl (by decide +kernel) ⟨Nat.le_of_ble_eq_true rfl, Nat.le_of_ble_eq_true rfl⟩) rfl hl.1 rfl (Nat.le_of_ble_eq_true rfl) dX6_to_2 (fun H locs hP hS => ?_)
  refine lv_aload_n hx hb dX6_to_5 rfl (lv_at hl 0 rfl) ?_
  obtain ⟨p3, e4, h⟩ := cal_el h
  refine c_get (C := RX6) (T := TX6) (N := 8) (ref := "SegmentMap") (ci := 7) (v := .ref p3) hC hin_X6 hP z1.1 (cE_6 z1.2) rfl 3 (by decide) fl_X6_pieces rfl (by show some (va_rf (S.2.2.1 a0 3)) = _; rw [e4]; rfl) dX6_to_6 ?_
  obtain ⟨z5, h⟩ := ckK_el h
  obtain ⟨p6, e7, h⟩ := cal_el h
  refine c_getN (C := RX0) (T := TX0) (N := 6) (ref := "SegmentMap$Edges") (ci := 1) (v := .ref p6) hC hin_X0 hP z5.1 (cE_0 z5.2) rfl 2 (by decide) (nm := "end") (ds := "LSegmentMap$Row;") (List.mem_of_getElem? (i := 10) rfl) rfl (by show some (va_rf (S.2.2.1 p3 2)) = _; rw [e7]; rfl) dX6_to_9 ?_
  refine lv_iload_n hx hb dX6_to_12 rfl (lv_at hl 1 rfl) ?_
  obtain ⟨z8, h⟩ := ckK_el h
  obtain ⟨t10, e9, h⟩ := cal_el h
  refine c_VI (As := [.int a1]) (rest := []) hC hP hS z8.1 (cE_3 z8.2) (C := RX3) (T := TX3) (N := 1) rfl (m_X3_get l G F S D p6 a1 t10 e9) (cwV 1 hts (gWC wc_99 wc_100 wc_101 wc_102 wc_96) rfl rfl rfl (by decide +kernel) ⟨Nat.le_of_ble_eq_true rfl, Nat.le_of_ble_eq_true rfl⟩) rfl hl.1 rfl (Nat.le_of_ble_eq_true rfl) dX6_to_13 (fun H locs hP hS => ?_)
  cases h
  exact c_iret hC hP hS rfl dX6_to_16

theorem dX6_leftOf_0 : decode cX6_leftOf 0 = .ok (.aload_n 0, 1) := by decide +kernel
theorem dX6_leftOf_1 : decode cX6_leftOf 1 = .ok (.iload_n 1, 1) := by decide +kernel
theorem dX6_leftOf_2 : decode cX6_leftOf 2 = .ok (.invokevirtual 144, 3) := by decide +kernel
theorem dX6_leftOf_5 : decode cX6_leftOf 5 = .ok (.aload_n 0, 1) := by decide +kernel
theorem dX6_leftOf_6 : decode cX6_leftOf 6 = .ok (.getfield 35, 3) := by decide +kernel
theorem dX6_leftOf_9 : decode cX6_leftOf 9 = .ok (.getfield 156, 3) := by decide +kernel
theorem dX6_leftOf_12 : decode cX6_leftOf 12 = .ok (.iconst 2, 1) := by decide +kernel
theorem dX6_leftOf_13 : decode cX6_leftOf 13 = .ok (.iload_n 1, 1) := by decide +kernel
theorem dX6_leftOf_14 : decode cX6_leftOf 14 = .ok (.imul, 1) := by decide +kernel
theorem dX6_leftOf_15 : decode cX6_leftOf 15 = .ok (.invokevirtual 140, 3) := by decide +kernel
theorem dX6_leftOf_18 : decode cX6_leftOf 18 = .ok (.ireturn, 1) := by decide +kernel
def f_X6_leftOf (F : Nat) (S : CS) (D : CD) (a0 : Nat) (a1 : Int32) : Option Int32 := ckK S a0 6 <| cal (f_X6_checkEdge F S D a0 a1) fun _ => cal (S.2.2.1 a0 3) fun p3 => ckK S p3 0 <| cal (S.2.2.1 p3 4) fun p6 => ckK S p6 3 <| cal (f_X3_get F S D p6 (2 * a1)) fun t10 => some t10
set_option maxRecDepth 100000 in
set_option maxHeartbeats 4000000 in
theorem m_X6_leftOf (l : Launch) (G : cG) (F : Nat) (S : CS) (D : CD) (a0 : Nat) (a1 : Int32) (r : Int32) (h : f_X6_leftOf F S D a0 a1 = some r) : cMI l yX6_leftOf vX6_leftOf ({ frames := 1, cells := 0, slots := 0, locals := 21 }) G S [.ref a0, .int a1] D D r := by
  refine cBodyI (cc := cX6_leftOf) (maxL := 2) (ret := (some .int)) (own := RX6) (by decide) rfl rfl ?_
  intro sz p e s m below meth c hC hP
  have hC0 := hC
  obtain ⟨hx, hb, -, hts, hown, -, hml, -, -, -⟩ := hC0
  have hS : va_S (cA G S sz) s.heap s.heap [] := va_S.rf
  have hin_X0 : ∀ w ∈ wsX00, w ∈ vX6_leftOf := fun w h => List.mem_cons_of_mem _ (hWC0 w h)
  have hin_X6 : ∀ w ∈ wsX60, w ∈ vX6_leftOf := fun w h => List.mem_cons_of_mem _ (hWC6 w h)
  have fl_X6_pieces := hts _ (List.mem_cons_of_mem _ wc_76)
  refine m_entry (Nat.le_of_ble_eq_true rfl) (fun ls hl => ?_)
  have hl : lv_has ls 2 [(0, .ref a0), (1, .int a1)] := hl
  unfold f_X6_leftOf at h
  refine lv_aload_n hx hb dX6_leftOf_0 rfl (lv_at hl 0 rfl) ?_
  refine lv_iload_n hx hb dX6_leftOf_1 rfl (lv_at hl 1 rfl) ?_
  obtain ⟨z1, h⟩ := ckK_el h
  obtain ⟨_, e2, h⟩ := cal_el h
  refine c_VV (As := [.int a1]) (rest := []) hC hP hS z1.1 (cE_6 z1.2) (C := RX6) (T := TX6) (N := 8) rfl (m_X6_checkEdge l G F S D a0 a1 e2) (cwV 1 hts (gWC wc_105 wc_106 wc_107 wc_66 wc_103) rfl rfl rfl (by decide +kernel) ⟨Nat.le_of_ble_eq_true rfl, Nat.le_of_ble_eq_true rfl⟩) rfl hl.1 rfl (Nat.le_of_ble_eq_true rfl) dX6_leftOf_2 (fun H locs hP hS => ?_)
  refine lv_aload_n hx hb dX6_leftOf_5 rfl (lv_at hl 0 rfl) ?_
  obtain ⟨p3, e4, h⟩ := cal_el h
  refine c_get (C := RX6) (T := TX6) (N := 8) (ref := "SegmentMap") (ci := 7) (v := .ref p3) hC hin_X6 hP z1.1 (cE_6 z1.2) rfl 3 (by decide) fl_X6_pieces rfl (by show some (va_rf (S.2.2.1 a0 3)) = _; rw [e4]; rfl) dX6_leftOf_6 ?_
  obtain ⟨z5, h⟩ := ckK_el h
  obtain ⟨p6, e7, h⟩ := cal_el h
  refine c_getN (C := RX0) (T := TX0) (N := 6) (ref := "SegmentMap$Edges") (ci := 1) (v := .ref p6) hC hin_X0 hP z5.1 (cE_0 z5.2) rfl 4 (by decide) (nm := "face") (ds := "LSegmentMap$Row;") (List.mem_of_getElem? (i := 11) rfl) rfl (by show some (va_rf (S.2.2.1 p3 4)) = _; rw [e7]; rfl) dX6_leftOf_9 ?_
  refine lv_iconst (v := 2) hx hb dX6_leftOf_12 (by decide) ?_
  refine lv_iload_n hx hb dX6_leftOf_13 rfl (lv_at hl 1 rfl) ?_
  refine lv_imul hx hb dX6_leftOf_14 ?_
  obtain ⟨z8, h⟩ := ckK_el h
  obtain ⟨t10, e9, h⟩ := cal_el h
  refine c_VI (As := [.int (2 * a1)]) (rest := []) hC hP hS z8.1 (cE_3 z8.2) (C := RX3) (T := TX3) (N := 1) rfl (m_X3_get l G F S D p6 (2 * a1) t10 e9) (cwV 1 hts (gWC wc_99 wc_100 wc_101 wc_102 wc_96) rfl rfl rfl (by decide +kernel) ⟨Nat.le_of_ble_eq_true rfl, Nat.le_of_ble_eq_true rfl⟩) rfl hl.1 rfl (Nat.le_of_ble_eq_true rfl) dX6_leftOf_15 (fun H locs hP hS => ?_)
  cases h
  exact c_iret hC hP hS rfl dX6_leftOf_18

theorem dX6_rightOf_0 : decode cX6_rightOf 0 = .ok (.aload_n 0, 1) := by decide +kernel
theorem dX6_rightOf_1 : decode cX6_rightOf 1 = .ok (.iload_n 1, 1) := by decide +kernel
theorem dX6_rightOf_2 : decode cX6_rightOf 2 = .ok (.invokevirtual 144, 3) := by decide +kernel
theorem dX6_rightOf_5 : decode cX6_rightOf 5 = .ok (.aload_n 0, 1) := by decide +kernel
theorem dX6_rightOf_6 : decode cX6_rightOf 6 = .ok (.getfield 35, 3) := by decide +kernel
theorem dX6_rightOf_9 : decode cX6_rightOf 9 = .ok (.getfield 156, 3) := by decide +kernel
theorem dX6_rightOf_12 : decode cX6_rightOf 12 = .ok (.iconst 2, 1) := by decide +kernel
theorem dX6_rightOf_13 : decode cX6_rightOf 13 = .ok (.iload_n 1, 1) := by decide +kernel
theorem dX6_rightOf_14 : decode cX6_rightOf 14 = .ok (.imul, 1) := by decide +kernel
theorem dX6_rightOf_15 : decode cX6_rightOf 15 = .ok (.iconst 1, 1) := by decide +kernel
theorem dX6_rightOf_16 : decode cX6_rightOf 16 = .ok (.iadd, 1) := by decide +kernel
theorem dX6_rightOf_17 : decode cX6_rightOf 17 = .ok (.invokevirtual 140, 3) := by decide +kernel
theorem dX6_rightOf_20 : decode cX6_rightOf 20 = .ok (.ireturn, 1) := by decide +kernel
def f_X6_rightOf (F : Nat) (S : CS) (D : CD) (a0 : Nat) (a1 : Int32) : Option Int32 := ckK S a0 6 <| cal (f_X6_checkEdge F S D a0 a1) fun _ => cal (S.2.2.1 a0 3) fun p3 => ckK S p3 0 <| cal (S.2.2.1 p3 4) fun p6 => ckK S p6 3 <| cal (f_X3_get F S D p6 ((2 * a1) + 1)) fun t10 => some t10
set_option maxRecDepth 100000 in
set_option maxHeartbeats 4000000 in
theorem m_X6_rightOf (l : Launch) (G : cG) (F : Nat) (S : CS) (D : CD) (a0 : Nat) (a1 : Int32) (r : Int32) (h : f_X6_rightOf F S D a0 a1 = some r) : cMI l yX6_rightOf vX6_rightOf ({ frames := 1, cells := 0, slots := 0, locals := 21 }) G S [.ref a0, .int a1] D D r := by
  refine cBodyI (cc := cX6_rightOf) (maxL := 2) (ret := (some .int)) (own := RX6) (by decide) rfl rfl ?_
  intro sz p e s m below meth c hC hP
  have hC0 := hC
  obtain ⟨hx, hb, -, hts, hown, -, hml, -, -, -⟩ := hC0
  have hS : va_S (cA G S sz) s.heap s.heap [] := va_S.rf
  have hin_X0 : ∀ w ∈ wsX00, w ∈ vX6_rightOf := fun w h => List.mem_cons_of_mem _ (hWC0 w h)
  have hin_X6 : ∀ w ∈ wsX60, w ∈ vX6_rightOf := fun w h => List.mem_cons_of_mem _ (hWC6 w h)
  have fl_X6_pieces := hts _ (List.mem_cons_of_mem _ wc_76)
  refine m_entry (Nat.le_of_ble_eq_true rfl) (fun ls hl => ?_)
  have hl : lv_has ls 2 [(0, .ref a0), (1, .int a1)] := hl
  unfold f_X6_rightOf at h
  refine lv_aload_n hx hb dX6_rightOf_0 rfl (lv_at hl 0 rfl) ?_
  refine lv_iload_n hx hb dX6_rightOf_1 rfl (lv_at hl 1 rfl) ?_
  obtain ⟨z1, h⟩ := ckK_el h
  obtain ⟨_, e2, h⟩ := cal_el h
  refine c_VV (As := [.int a1]) (rest := []) hC hP hS z1.1 (cE_6 z1.2) (C := RX6) (T := TX6) (N := 8) rfl (m_X6_checkEdge l G F S D a0 a1 e2) (cwV 1 hts (gWC wc_105 wc_106 wc_107 wc_66 wc_103) rfl rfl rfl (by decide +kernel) ⟨Nat.le_of_ble_eq_true rfl, Nat.le_of_ble_eq_true rfl⟩) rfl hl.1 rfl (Nat.le_of_ble_eq_true rfl) dX6_rightOf_2 (fun H locs hP hS => ?_)
  refine lv_aload_n hx hb dX6_rightOf_5 rfl (lv_at hl 0 rfl) ?_
  obtain ⟨p3, e4, h⟩ := cal_el h
  refine c_get (C := RX6) (T := TX6) (N := 8) (ref := "SegmentMap") (ci := 7) (v := .ref p3) hC hin_X6 hP z1.1 (cE_6 z1.2) rfl 3 (by decide) fl_X6_pieces rfl (by show some (va_rf (S.2.2.1 a0 3)) = _; rw [e4]; rfl) dX6_rightOf_6 ?_
  obtain ⟨z5, h⟩ := ckK_el h
  obtain ⟨p6, e7, h⟩ := cal_el h
  refine c_getN (C := RX0) (T := TX0) (N := 6) (ref := "SegmentMap$Edges") (ci := 1) (v := .ref p6) hC hin_X0 hP z5.1 (cE_0 z5.2) rfl 4 (by decide) (nm := "face") (ds := "LSegmentMap$Row;") (List.mem_of_getElem? (i := 11) rfl) rfl (by show some (va_rf (S.2.2.1 p3 4)) = _; rw [e7]; rfl) dX6_rightOf_9 ?_
  refine lv_iconst (v := 2) hx hb dX6_rightOf_12 (by decide) ?_
  refine lv_iload_n hx hb dX6_rightOf_13 rfl (lv_at hl 1 rfl) ?_
  refine lv_imul hx hb dX6_rightOf_14 ?_
  refine lv_iconst (v := 1) hx hb dX6_rightOf_15 (by decide) ?_
  refine lv_iadd hx hb dX6_rightOf_16 ?_
  obtain ⟨z8, h⟩ := ckK_el h
  obtain ⟨t10, e9, h⟩ := cal_el h
  refine c_VI (As := [.int ((2 * a1) + 1)]) (rest := []) hC hP hS z8.1 (cE_3 z8.2) (C := RX3) (T := TX3) (N := 1) rfl (m_X3_get l G F S D p6 ((2 * a1) + 1) t10 e9) (cwV 1 hts (gWC wc_99 wc_100 wc_101 wc_102 wc_96) rfl rfl rfl (by decide +kernel) ⟨Nat.le_of_ble_eq_true rfl, Nat.le_of_ble_eq_true rfl⟩) rfl hl.1 rfl (Nat.le_of_ble_eq_true rfl) dX6_rightOf_17 (fun H locs hP hS => ?_)
  cases h
  exact c_iret hC hP hS rfl dX6_rightOf_20

theorem dX6_checkFace_0 : decode cX6_checkFace 0 = .ok (.iload_n 1, 1) := by decide +kernel
theorem dX6_checkFace_1 : decode cX6_checkFace 1 = .ok (.ifCond .lt 14, 3) := by decide +kernel
theorem dX6_checkFace_4 : decode cX6_checkFace 4 = .ok (.iload_n 1, 1) := by decide +kernel
theorem dX6_checkFace_5 : decode cX6_checkFace 5 = .ok (.aload_n 0, 1) := by decide +kernel
theorem dX6_checkFace_6 : decode cX6_checkFace 6 = .ok (.getfield 42, 3) := by decide +kernel
theorem dX6_checkFace_9 : decode cX6_checkFace 9 = .ok (.getfield 113, 3) := by decide +kernel
theorem dX6_checkFace_12 : decode cX6_checkFace 12 = .ok (.if_icmp .lt 13, 3) := by decide +kernel
theorem dX6_checkFace_15 : decode cX6_checkFace 15 = .ok (.new 190, 3) := by decide +kernel
theorem dX6_checkFace_18 : decode cX6_checkFace 18 = .ok (.dup, 1) := by decide +kernel
theorem dX6_checkFace_19 : decode cX6_checkFace 19 = .ok (.ldc 215, 2) := by decide +kernel
theorem dX6_checkFace_21 : decode cX6_checkFace 21 = .ok (.invokespecial 194, 3) := by decide +kernel
theorem dX6_checkFace_24 : decode cX6_checkFace 24 = .ok (.athrow, 1) := by decide +kernel
theorem dX6_checkFace_25 : decode cX6_checkFace 25 = .ok (.return_, 1) := by decide +kernel
def f_X6_checkFace (F : Nat) (S : CS) (D : CD) (a0 : Nat) (a1 : Int32) : Option Unit := (if a1 < 0 then none else ckK S a0 6 <| cal (S.2.2.1 a0 4) fun p3 => ckK S p3 1 <| (if a1 < (D.1 p3 2) then some () else none))
set_option maxRecDepth 100000 in
set_option maxHeartbeats 4000000 in
theorem m_X6_checkFace (l : Launch) (G : cG) (F : Nat) (S : CS) (D : CD) (a0 : Nat) (a1 : Int32) (h : f_X6_checkFace F S D a0 a1 = some ()) : cMV l yX6_checkFace vX6_checkFace ({ frames := 0, cells := 0, slots := 0, locals := 0 }) G S [.ref a0, .int a1] D D := by
  refine cBodyV (cc := cX6_checkFace) (maxL := 2) (ret := none) (own := RX6) (by decide) rfl rfl ?_
  intro sz p e s m below meth c hC hP
  have hC0 := hC
  obtain ⟨hx, hb, -, hts, hown, -, hml, -, -, -⟩ := hC0
  have hS : va_S (cA G S sz) s.heap s.heap [] := va_S.rf
  have hin_X1 : ∀ w ∈ wsX10, w ∈ vX6_checkFace := fun w h => List.mem_cons_of_mem _ (hWC1 w h)
  have hin_X6 : ∀ w ∈ wsX60, w ∈ vX6_checkFace := fun w h => List.mem_cons_of_mem _ (hWC6 w h)
  have fl_X6_regions := hts _ (List.mem_cons_of_mem _ wc_78)
  refine m_entry (Nat.le_of_ble_eq_true rfl) (fun ls hl => ?_)
  have hl : lv_has ls 2 [(0, .ref a0), (1, .int a1)] := hl
  unfold f_X6_checkFace at h
  refine lv_iload_n hx hb dX6_checkFace_0 rfl (lv_at hl 1 rfl) ?_
  refine lv_if_lt (tgt := 15) hx hb dX6_checkFace_1 (by decide) (fun u1 => ?_) (fun u1 => ?_)
  · have h := ite_t u1 h
    cases h
  · have h := ite_f u1 h
    refine lv_iload_n hx hb dX6_checkFace_4 rfl (lv_at hl 1 rfl) ?_
    refine lv_aload_n hx hb dX6_checkFace_5 rfl (lv_at hl 0 rfl) ?_
    obtain ⟨z2, h⟩ := ckK_el h
    obtain ⟨p3, e4, h⟩ := cal_el h
    refine c_get (C := RX6) (T := TX6) (N := 8) (ref := "SegmentMap") (ci := 7) (v := .ref p3) hC hin_X6 hP z2.1 (cE_6 z2.2) rfl 4 (by decide) fl_X6_regions rfl (by show some (va_rf (S.2.2.1 a0 4)) = _; rw [e4]; rfl) dX6_checkFace_6 ?_
    obtain ⟨z5, h⟩ := ckK_el h
    refine c_getN (C := RX1) (T := TX1) (N := 3) (ref := "SegmentMap$Faces") (ci := 2) (v := .int (D.1 p3 2)) hC hin_X1 hP z5.1 (cE_1 z5.2) rfl 2 (by decide) (nm := "count") (ds := "I") (List.mem_of_getElem? (i := 2) rfl) rfl rfl dX6_checkFace_9 ?_
    refine lv_icmp_lt (tgt := 25) hx hb dX6_checkFace_12 (by decide) (fun u6 => ?_) (fun u6 => ?_)
    · have h := ite_t u6 h
      cases h
      exact c_vret hC hP hS dX6_checkFace_25
    · have h := ite_f u6 h
      cases h

theorem dX6_sides_0 : decode cX6_sides 0 = .ok (.aload_n 0, 1) := by decide +kernel
theorem dX6_sides_1 : decode cX6_sides 1 = .ok (.iload_n 1, 1) := by decide +kernel
theorem dX6_sides_2 : decode cX6_sides 2 = .ok (.invokevirtual 159, 3) := by decide +kernel
theorem dX6_sides_5 : decode cX6_sides 5 = .ok (.aload_n 0, 1) := by decide +kernel
theorem dX6_sides_6 : decode cX6_sides 6 = .ok (.getfield 42, 3) := by decide +kernel
theorem dX6_sides_9 : decode cX6_sides 9 = .ok (.getfield 162, 3) := by decide +kernel
theorem dX6_sides_12 : decode cX6_sides 12 = .ok (.iload_n 1, 1) := by decide +kernel
theorem dX6_sides_13 : decode cX6_sides 13 = .ok (.invokevirtual 140, 3) := by decide +kernel
theorem dX6_sides_16 : decode cX6_sides 16 = .ok (.ireturn, 1) := by decide +kernel
def f_X6_sides (F : Nat) (S : CS) (D : CD) (a0 : Nat) (a1 : Int32) : Option Int32 := ckK S a0 6 <| cal (f_X6_checkFace F S D a0 a1) fun _ => cal (S.2.2.1 a0 4) fun p3 => ckK S p3 1 <| cal (S.2.2.1 p3 1) fun p6 => ckK S p6 3 <| cal (f_X3_get F S D p6 a1) fun t10 => some t10
set_option maxRecDepth 100000 in
set_option maxHeartbeats 4000000 in
theorem m_X6_sides (l : Launch) (G : cG) (F : Nat) (S : CS) (D : CD) (a0 : Nat) (a1 : Int32) (r : Int32) (h : f_X6_sides F S D a0 a1 = some r) : cMI l yX6_sides vX6_sides ({ frames := 1, cells := 0, slots := 0, locals := 21 }) G S [.ref a0, .int a1] D D r := by
  refine cBodyI (cc := cX6_sides) (maxL := 2) (ret := (some .int)) (own := RX6) (by decide) rfl rfl ?_
  intro sz p e s m below meth c hC hP
  have hC0 := hC
  obtain ⟨hx, hb, -, hts, hown, -, hml, -, -, -⟩ := hC0
  have hS : va_S (cA G S sz) s.heap s.heap [] := va_S.rf
  have hin_X1 : ∀ w ∈ wsX10, w ∈ vX6_sides := fun w h => List.mem_cons_of_mem _ (hWC1 w h)
  have hin_X6 : ∀ w ∈ wsX60, w ∈ vX6_sides := fun w h => List.mem_cons_of_mem _ (hWC6 w h)
  have fl_X6_regions := hts _ (List.mem_cons_of_mem _ wc_78)
  refine m_entry (Nat.le_of_ble_eq_true rfl) (fun ls hl => ?_)
  have hl : lv_has ls 2 [(0, .ref a0), (1, .int a1)] := hl
  unfold f_X6_sides at h
  refine lv_aload_n hx hb dX6_sides_0 rfl (lv_at hl 0 rfl) ?_
  refine lv_iload_n hx hb dX6_sides_1 rfl (lv_at hl 1 rfl) ?_
  obtain ⟨z1, h⟩ := ckK_el h
  obtain ⟨_, e2, h⟩ := cal_el h
  refine c_VV (As := [.int a1]) (rest := []) hC hP hS z1.1 (cE_6 z1.2) (C := RX6) (T := TX6) (N := 8) rfl (m_X6_checkFace l G F S D a0 a1 e2) (cwV 1 hts (gWC wc_114 wc_115 wc_116 wc_66 wc_112) rfl rfl rfl (by decide +kernel) ⟨Nat.le_of_ble_eq_true rfl, Nat.le_of_ble_eq_true rfl⟩) rfl hl.1 rfl (Nat.le_of_ble_eq_true rfl) dX6_sides_2 (fun H locs hP hS => ?_)
  refine lv_aload_n hx hb dX6_sides_5 rfl (lv_at hl 0 rfl) ?_
  obtain ⟨p3, e4, h⟩ := cal_el h
  refine c_get (C := RX6) (T := TX6) (N := 8) (ref := "SegmentMap") (ci := 7) (v := .ref p3) hC hin_X6 hP z1.1 (cE_6 z1.2) rfl 4 (by decide) fl_X6_regions rfl (by show some (va_rf (S.2.2.1 a0 4)) = _; rw [e4]; rfl) dX6_sides_6 ?_
  obtain ⟨z5, h⟩ := ckK_el h
  obtain ⟨p6, e7, h⟩ := cal_el h
  refine c_getN (C := RX1) (T := TX1) (N := 3) (ref := "SegmentMap$Faces") (ci := 2) (v := .ref p6) hC hin_X1 hP z5.1 (cE_1 z5.2) rfl 1 (by decide) (nm := "sideCount") (ds := "LSegmentMap$Row;") (List.mem_of_getElem? (i := 12) rfl) rfl (by show some (va_rf (S.2.2.1 p3 1)) = _; rw [e7]; rfl) dX6_sides_9 ?_
  refine lv_iload_n hx hb dX6_sides_12 rfl (lv_at hl 1 rfl) ?_
  obtain ⟨z8, h⟩ := ckK_el h
  obtain ⟨t10, e9, h⟩ := cal_el h
  refine c_VI (As := [.int a1]) (rest := []) hC hP hS z8.1 (cE_3 z8.2) (C := RX3) (T := TX3) (N := 1) rfl (m_X3_get l G F S D p6 a1 t10 e9) (cwV 1 hts (gWC wc_99 wc_100 wc_101 wc_102 wc_96) rfl rfl rfl (by decide +kernel) ⟨Nat.le_of_ble_eq_true rfl, Nat.le_of_ble_eq_true rfl⟩) rfl hl.1 rfl (Nat.le_of_ble_eq_true rfl) dX6_sides_13 (fun H locs hP hS => ?_)
  cases h
  exact c_iret hC hP hS rfl dX6_sides_16

theorem dX6_firstVertex_0 : decode cX6_firstVertex 0 = .ok (.aload_n 0, 1) := by decide +kernel
theorem dX6_firstVertex_1 : decode cX6_firstVertex 1 = .ok (.iload_n 1, 1) := by decide +kernel
theorem dX6_firstVertex_2 : decode cX6_firstVertex 2 = .ok (.invokevirtual 159, 3) := by decide +kernel
theorem dX6_firstVertex_5 : decode cX6_firstVertex 5 = .ok (.aload_n 0, 1) := by decide +kernel
theorem dX6_firstVertex_6 : decode cX6_firstVertex 6 = .ok (.getfield 42, 3) := by decide +kernel
theorem dX6_firstVertex_9 : decode cX6_firstVertex 9 = .ok (.getfield 165, 3) := by decide +kernel
theorem dX6_firstVertex_12 : decode cX6_firstVertex 12 = .ok (.iload_n 1, 1) := by decide +kernel
theorem dX6_firstVertex_13 : decode cX6_firstVertex 13 = .ok (.invokevirtual 140, 3) := by decide +kernel
theorem dX6_firstVertex_16 : decode cX6_firstVertex 16 = .ok (.ireturn, 1) := by decide +kernel
def f_X6_firstVertex (F : Nat) (S : CS) (D : CD) (a0 : Nat) (a1 : Int32) : Option Int32 := ckK S a0 6 <| cal (f_X6_checkFace F S D a0 a1) fun _ => cal (S.2.2.1 a0 4) fun p3 => ckK S p3 1 <| cal (S.2.2.1 p3 0) fun p6 => ckK S p6 3 <| cal (f_X3_get F S D p6 a1) fun t10 => some t10
set_option maxRecDepth 100000 in
set_option maxHeartbeats 4000000 in
theorem m_X6_firstVertex (l : Launch) (G : cG) (F : Nat) (S : CS) (D : CD) (a0 : Nat) (a1 : Int32) (r : Int32) (h : f_X6_firstVertex F S D a0 a1 = some r) : cMI l yX6_firstVertex vX6_firstVertex ({ frames := 1, cells := 0, slots := 0, locals := 21 }) G S [.ref a0, .int a1] D D r := by
  refine cBodyI (cc := cX6_firstVertex) (maxL := 2) (ret := (some .int)) (own := RX6) (by decide) rfl rfl ?_
  intro sz p e s m below meth c hC hP
  have hC0 := hC
  obtain ⟨hx, hb, -, hts, hown, -, hml, -, -, -⟩ := hC0
  have hS : va_S (cA G S sz) s.heap s.heap [] := va_S.rf
  have hin_X1 : ∀ w ∈ wsX10, w ∈ vX6_firstVertex := fun w h => List.mem_cons_of_mem _ (hWC1 w h)
  have hin_X6 : ∀ w ∈ wsX60, w ∈ vX6_firstVertex := fun w h => List.mem_cons_of_mem _ (hWC6 w h)
  have fl_X6_regions := hts _ (List.mem_cons_of_mem _ wc_78)
  refine m_entry (Nat.le_of_ble_eq_true rfl) (fun ls hl => ?_)
  have hl : lv_has ls 2 [(0, .ref a0), (1, .int a1)] := hl
  unfold f_X6_firstVertex at h
  refine lv_aload_n hx hb dX6_firstVertex_0 rfl (lv_at hl 0 rfl) ?_
  refine lv_iload_n hx hb dX6_firstVertex_1 rfl (lv_at hl 1 rfl) ?_
  obtain ⟨z1, h⟩ := ckK_el h
  obtain ⟨_, e2, h⟩ := cal_el h
  refine c_VV (As := [.int a1]) (rest := []) hC hP hS z1.1 (cE_6 z1.2) (C := RX6) (T := TX6) (N := 8) rfl (m_X6_checkFace l G F S D a0 a1 e2) (cwV 1 hts (gWC wc_114 wc_115 wc_116 wc_66 wc_112) rfl rfl rfl (by decide +kernel) ⟨Nat.le_of_ble_eq_true rfl, Nat.le_of_ble_eq_true rfl⟩) rfl hl.1 rfl (Nat.le_of_ble_eq_true rfl) dX6_firstVertex_2 (fun H locs hP hS => ?_)
  refine lv_aload_n hx hb dX6_firstVertex_5 rfl (lv_at hl 0 rfl) ?_
  obtain ⟨p3, e4, h⟩ := cal_el h
  refine c_get (C := RX6) (T := TX6) (N := 8) (ref := "SegmentMap") (ci := 7) (v := .ref p3) hC hin_X6 hP z1.1 (cE_6 z1.2) rfl 4 (by decide) fl_X6_regions rfl (by show some (va_rf (S.2.2.1 a0 4)) = _; rw [e4]; rfl) dX6_firstVertex_6 ?_
  obtain ⟨z5, h⟩ := ckK_el h
  obtain ⟨p6, e7, h⟩ := cal_el h
  refine c_getN (C := RX1) (T := TX1) (N := 3) (ref := "SegmentMap$Faces") (ci := 2) (v := .ref p6) hC hin_X1 hP z5.1 (cE_1 z5.2) rfl 0 (by decide) (nm := "first") (ds := "LSegmentMap$Row;") (List.mem_of_getElem? (i := 13) rfl) rfl (by show some (va_rf (S.2.2.1 p3 0)) = _; rw [e7]; rfl) dX6_firstVertex_9 ?_
  refine lv_iload_n hx hb dX6_firstVertex_12 rfl (lv_at hl 1 rfl) ?_
  obtain ⟨z8, h⟩ := ckK_el h
  obtain ⟨t10, e9, h⟩ := cal_el h
  refine c_VI (As := [.int a1]) (rest := []) hC hP hS z8.1 (cE_3 z8.2) (C := RX3) (T := TX3) (N := 1) rfl (m_X3_get l G F S D p6 a1 t10 e9) (cwV 1 hts (gWC wc_99 wc_100 wc_101 wc_102 wc_96) rfl rfl rfl (by decide +kernel) ⟨Nat.le_of_ble_eq_true rfl, Nat.le_of_ble_eq_true rfl⟩) rfl hl.1 rfl (Nat.le_of_ble_eq_true rfl) dX6_firstVertex_13 (fun H locs hP hS => ?_)
  cases h
  exact c_iret hC hP hS rfl dX6_firstVertex_16

theorem dX6_checkCoordinate_0 : decode cX6_checkCoordinate 0 = .ok (.iload_n 1, 1) := by decide +kernel
theorem dX6_checkCoordinate_1 : decode cX6_checkCoordinate 1 = .ok (.ifCond .lt 9, 3) := by decide +kernel
theorem dX6_checkCoordinate_4 : decode cX6_checkCoordinate 4 = .ok (.iload_n 1, 1) := by decide +kernel
theorem dX6_checkCoordinate_5 : decode cX6_checkCoordinate 5 = .ok (.bipush 100, 2) := by decide +kernel
theorem dX6_checkCoordinate_7 : decode cX6_checkCoordinate 7 = .ok (.if_icmp .le 13, 3) := by decide +kernel
theorem dX6_checkCoordinate_10 : decode cX6_checkCoordinate 10 = .ok (.new 68, 3) := by decide +kernel
theorem dX6_checkCoordinate_13 : decode cX6_checkCoordinate 13 = .ok (.dup, 1) := by decide +kernel
theorem dX6_checkCoordinate_14 : decode cX6_checkCoordinate 14 = .ok (.ldc 207, 2) := by decide +kernel
theorem dX6_checkCoordinate_16 : decode cX6_checkCoordinate 16 = .ok (.invokespecial 72, 3) := by decide +kernel
theorem dX6_checkCoordinate_19 : decode cX6_checkCoordinate 19 = .ok (.athrow, 1) := by decide +kernel
theorem dX6_checkCoordinate_20 : decode cX6_checkCoordinate 20 = .ok (.return_, 1) := by decide +kernel
def f_X6_checkCoordinate (F : Nat) (S : CS) (D : CD) (a0 : Nat) (a1 : Int32) : Option Unit := (if a1 < 0 then none else (if a1 ≤ 100 then some () else none))
set_option maxRecDepth 100000 in
set_option maxHeartbeats 4000000 in
theorem m_X6_checkCoordinate (l : Launch) (G : cG) (F : Nat) (S : CS) (D : CD) (a0 : Nat) (a1 : Int32) (h : f_X6_checkCoordinate F S D a0 a1 = some ()) : cMV l yX6_checkCoordinate vX6_checkCoordinate ({ frames := 0, cells := 0, slots := 0, locals := 0 }) G S [.ref a0, .int a1] D D := by
  refine cBodyV (cc := cX6_checkCoordinate) (maxL := 2) (ret := none) (own := RX6) (by decide) rfl rfl ?_
  intro sz p e s m below meth c hC hP
  have hC0 := hC
  obtain ⟨hx, hb, -, hts, hown, -, hml, -, -, -⟩ := hC0
  have hS : va_S (cA G S sz) s.heap s.heap [] := va_S.rf
  refine m_entry (Nat.le_of_ble_eq_true rfl) (fun ls hl => ?_)
  have hl : lv_has ls 2 [(0, .ref a0), (1, .int a1)] := hl
  unfold f_X6_checkCoordinate at h
  refine lv_iload_n hx hb dX6_checkCoordinate_0 rfl (lv_at hl 1 rfl) ?_
  refine lv_if_lt (tgt := 10) hx hb dX6_checkCoordinate_1 (by decide) (fun u1 => ?_) (fun u1 => ?_)
  · have h := ite_t u1 h
    cases h
  · have h := ite_f u1 h
    refine lv_iload_n hx hb dX6_checkCoordinate_4 rfl (lv_at hl 1 rfl) ?_
    refine lv_bipush (v := 100) hx hb dX6_checkCoordinate_5 (by decide) ?_
    refine lv_icmp_le (tgt := 20) hx hb dX6_checkCoordinate_7 (by decide) (fun u2 => ?_) (fun u2 => ?_)
    · have h := ite_t u2 h
      cases h
      exact c_vret hC hP hS dX6_checkCoordinate_20
    · have h := ite_f u2 h
      cases h

theorem dX2_commonDivisor_0 : decode cX2_commonDivisor 0 = .ok (.lload_n 0, 1) := by decide +kernel
theorem dX2_commonDivisor_1 : decode cX2_commonDivisor 1 = .ok (.invokestatic 43, 3) := by decide +kernel
theorem dX2_commonDivisor_4 : decode cX2_commonDivisor 4 = .ok (.lstore 4, 2) := by decide +kernel
theorem dX2_commonDivisor_6 : decode cX2_commonDivisor 6 = .ok (.lload_n 2, 1) := by decide +kernel
theorem dX2_commonDivisor_7 : decode cX2_commonDivisor 7 = .ok (.invokestatic 43, 3) := by decide +kernel
theorem dX2_commonDivisor_10 : decode cX2_commonDivisor 10 = .ok (.lstore 6, 2) := by decide +kernel
theorem dX2_commonDivisor_12 : decode cX2_commonDivisor 12 = .ok (.iconst 0, 1) := by decide +kernel
theorem dX2_commonDivisor_13 : decode cX2_commonDivisor 13 = .ok (.istore 8, 2) := by decide +kernel
theorem dX2_commonDivisor_15 : decode cX2_commonDivisor 15 = .ok (.iload 8, 2) := by decide +kernel
theorem dX2_commonDivisor_17 : decode cX2_commonDivisor 17 = .ok (.bipush 100, 2) := by decide +kernel
theorem dX2_commonDivisor_19 : decode cX2_commonDivisor 19 = .ok (.if_icmp .ge 31, 3) := by decide +kernel
theorem dX2_commonDivisor_22 : decode cX2_commonDivisor 22 = .ok (.lload 6, 2) := by decide +kernel
theorem dX2_commonDivisor_24 : decode cX2_commonDivisor 24 = .ok (.lconst 0, 1) := by decide +kernel
theorem dX2_commonDivisor_25 : decode cX2_commonDivisor 25 = .ok (.lcmp, 1) := by decide +kernel
theorem dX2_commonDivisor_26 : decode cX2_commonDivisor 26 = .ok (.ifCond .eq 24, 3) := by decide +kernel
theorem dX2_commonDivisor_29 : decode cX2_commonDivisor 29 = .ok (.lload 4, 2) := by decide +kernel
theorem dX2_commonDivisor_31 : decode cX2_commonDivisor 31 = .ok (.lload 6, 2) := by decide +kernel
theorem dX2_commonDivisor_33 : decode cX2_commonDivisor 33 = .ok (.lrem, 1) := by decide +kernel
theorem dX2_commonDivisor_34 : decode cX2_commonDivisor 34 = .ok (.lstore 9, 2) := by decide +kernel
theorem dX2_commonDivisor_36 : decode cX2_commonDivisor 36 = .ok (.lload 6, 2) := by decide +kernel
theorem dX2_commonDivisor_38 : decode cX2_commonDivisor 38 = .ok (.lstore 4, 2) := by decide +kernel
theorem dX2_commonDivisor_40 : decode cX2_commonDivisor 40 = .ok (.lload 9, 2) := by decide +kernel
theorem dX2_commonDivisor_42 : decode cX2_commonDivisor 42 = .ok (.lstore 6, 2) := by decide +kernel
theorem dX2_commonDivisor_44 : decode cX2_commonDivisor 44 = .ok (.iinc 8 1, 3) := by decide +kernel
theorem dX2_commonDivisor_47 : decode cX2_commonDivisor 47 = .ok (.goto (-32), 3) := by decide +kernel
theorem dX2_commonDivisor_50 : decode cX2_commonDivisor 50 = .ok (.lload 4, 2) := by decide +kernel
theorem dX2_commonDivisor_52 : decode cX2_commonDivisor 52 = .ok (.lreturn, 1) := by decide +kernel
def f_X2_commonDivisor_L15 (F : Nat) (S : CS) (D : CD) : Nat → Int64 → Int64 → Int32 → Option Int64
  | 0, _, _, _ => none
  | n15 + 1, x4, x6, x8 => (if 100 ≤ x8 then some x4 else (if (lg_cmp x6 0) = 0 then some x4 else dvL x6 <| (f_X2_commonDivisor_L15 F S D n15) x6 (x4 - x4 / x6 * x6) (x8 + 1)))
def f_X2_commonDivisor (F : Nat) (S : CS) (D : CD) (a1 : Int64) (a2 : Int64) : Option Int64 := f_X2_commonDivisor_L15 F S D F (if 0 < a1 then a1 else -a1) (if 0 < a2 then a2 else -a2) 0
set_option maxRecDepth 100000 in
set_option maxHeartbeats 4000000 in
theorem m_X2_commonDivisor (l : Launch) (G : cG) (F : Nat) (S : CS) (D : CD) (a1 : Int64) (a2 : Int64) (r : Int64) (h : f_X2_commonDivisor F S D a1 a2 = some r) : cML l yX2_commonDivisor vX2_commonDivisor ({ frames := 1, cells := 0, slots := 0, locals := 21 }) G S [.long a1, .long a2] D D r := by
  refine cBodyL (cc := cX2_commonDivisor) (maxL := 11) (ret := (some .long)) (own := RX2) (by decide) rfl rfl ?_
  intro sz p e s m below meth c hC hP
  have hC0 := hC
  obtain ⟨hx, hb, -, hts, hown, -, hml, -, -, -⟩ := hC0
  have hS : va_S (cA G S sz) s.heap s.heap [] := va_S.rf
  have L15 : ∀ (n15 : Nat) (H : Heap) (locs : List Loc) (ls : Array Slot) (x4 : Int64) (x6 : Int64) (x8 : Int32), va_P G.1 vwCl (cW G S D) H → va_S (cA G S sz) s.heap H locs → lv_has ls 11 [(4, .long x4), (6, .long x6), (8, .int x8)] → f_X2_commonDivisor_L15 F S D n15 x4 x6 x8 = some r → W p l e (headSpec vX2_commonDivisor ({ frames := 1, cells := 0, slots := 0, locals := 21 })).room s m ([.long a1, .long a2] : List Value).toArray below meth c H locs 0 0 (cQL below G S D sz ([.long a1, .long a2] : List Value).toArray s r) (F0 m 15 ls []) := by
    intro n15
    induction n15 with
    | zero =>
      intro H locs ls x4 x6 x8 hP hS hl h
      rw [f_X2_commonDivisor_L15] at h; cases h
    | succ n15 ih15 =>
      intro H locs ls x4 x6 x8 hP hS hl h
      rw [f_X2_commonDivisor_L15] at h
      refine lv_iload hx hb dX2_commonDivisor_15 (lv_at hl 2 rfl) ?_
      refine lv_bipush (v := 100) hx hb dX2_commonDivisor_17 (by decide) ?_
      refine lv_icmp_ge (tgt := 50) hx hb dX2_commonDivisor_19 (by decide) (fun u1 => ?_) (fun u1 => ?_)
      · have h := ite_t u1 h
        refine lv_lload hx hb dX2_commonDivisor_50 (lv_at hl 0 rfl) ?_
        cases h
        exact c_lret hC hP hS rfl dX2_commonDivisor_52
      · have h := ite_f u1 h
        refine lv_lload hx hb dX2_commonDivisor_22 (lv_at hl 1 rfl) ?_
        refine lv_lconst (v := 0) hx hb dX2_commonDivisor_24 (by decide) ?_
        refine W.lcmp hx hb dX2_commonDivisor_25 ?_
        refine lv_if_eq (tgt := 50) hx hb dX2_commonDivisor_26 (by decide) (fun u2 => ?_) (fun u2 => ?_)
        · have h := ite_t u2 h
          refine lv_lload hx hb dX2_commonDivisor_50 (lv_at hl 0 rfl) ?_
          cases h
          exact c_lret hC hP hS rfl dX2_commonDivisor_52
        · have h := ite_f u2 h
          refine lv_lload hx hb dX2_commonDivisor_29 (lv_at hl 0 rfl) ?_
          refine lv_lload hx hb dX2_commonDivisor_31 (lv_at hl 1 rfl) ?_
          obtain ⟨z3, h⟩ := dvL_el h
          refine lv_lrem hx hb dX2_commonDivisor_33 z3 ?_
          refine lv_lstore (lv' := [(9, .long (x4 - x4 / x6 * x6)), (4, .long x4), (6, .long x6), (8, .int x8)]) hx hb dX2_commonDivisor_34 hl (by decide) rfl (fun ls hl => ?_)
          refine lv_lload hx hb dX2_commonDivisor_36 (lv_at hl 2 rfl) ?_
          refine lv_lstore (lv' := [(4, .long x6), (9, .long (x4 - x4 / x6 * x6)), (6, .long x6), (8, .int x8)]) hx hb dX2_commonDivisor_38 hl (by decide) rfl (fun ls hl => ?_)
          refine lv_lload hx hb dX2_commonDivisor_40 (lv_at hl 1 rfl) ?_
          refine lv_lstore (lv' := [(6, .long (x4 - x4 / x6 * x6)), (4, .long x6), (9, .long (x4 - x4 / x6 * x6)), (8, .int x8)]) hx hb dX2_commonDivisor_42 hl (by decide) rfl (fun ls hl => ?_)
          refine lv_iinc (v := x8 + 1) (lv' := [(8, .int (x8 + 1)), (6, .long (x4 - x4 / x6 * x6)), (4, .long x6), (9, .long (x4 - x4 / x6 * x6))]) hx hb dX2_commonDivisor_44 hl (k := 3) rfl rfl (by decide) rfl (fun ls hl => ?_)
          refine lv_goto (tgt := 15) hx hb dX2_commonDivisor_47 (by decide) ?_
          exact ih15 _ _ _ x6 (x4 - x4 / x6 * x6) (x8 + 1) hP hS (lv_sub hl [2, 1, 0] rfl) h
  refine m_entry (Nat.le_of_ble_eq_true rfl) (fun ls hl => ?_)
  have hl : lv_has ls 11 [(0, .long a1), (2, .long a2)] := hl
  unfold f_X2_commonDivisor at h
  refine lv_lload_n hx hb dX2_commonDivisor_0 rfl (lv_at hl 0 rfl) ?_
  refine va_mabs_long (own := RX2) hx hb (hml.trans hl.1.symm) hown (hts _ (List.mem_cons_of_mem _ wc_120)) (hts _ (List.mem_cons_of_mem _ wc_121)) (hts _ (List.mem_cons_of_mem _ wc_41)) (hts _ (List.mem_cons_of_mem _ wc_122)) (Nat.le_of_ble_eq_true rfl) (Nat.le_of_ble_eq_true rfl) (Nat.zero_le _) (Nat.zero_le _) dX2_commonDivisor_1 ?_
  refine lv_lstore (lv' := [(4, .long (if 0 < a1 then a1 else -a1)), (0, .long a1), (2, .long a2)]) hx hb dX2_commonDivisor_4 hl (by decide) rfl (fun ls hl => ?_)
  refine lv_lload_n hx hb dX2_commonDivisor_6 rfl (lv_at hl 2 rfl) ?_
  refine va_mabs_long (own := RX2) hx hb (hml.trans hl.1.symm) hown (hts _ (List.mem_cons_of_mem _ wc_120)) (hts _ (List.mem_cons_of_mem _ wc_121)) (hts _ (List.mem_cons_of_mem _ wc_41)) (hts _ (List.mem_cons_of_mem _ wc_122)) (Nat.le_of_ble_eq_true rfl) (Nat.le_of_ble_eq_true rfl) (Nat.zero_le _) (Nat.zero_le _) dX2_commonDivisor_7 ?_
  refine lv_lstore (lv' := [(6, .long (if 0 < a2 then a2 else -a2)), (4, .long (if 0 < a1 then a1 else -a1)), (0, .long a1), (2, .long a2)]) hx hb dX2_commonDivisor_10 hl (by decide) rfl (fun ls hl => ?_)
  refine lv_iconst (v := 0) hx hb dX2_commonDivisor_12 (by decide) ?_
  refine lv_istore (lv' := [(8, .int 0), (6, .long (if 0 < a2 then a2 else -a2)), (4, .long (if 0 < a1 then a1 else -a1)), (0, .long a1), (2, .long a2)]) hx hb dX2_commonDivisor_13 hl (by decide) rfl (fun ls hl => ?_)
  exact L15 F _ _ _ (if 0 < a1 then a1 else -a1) (if 0 < a2 then a2 else -a2) 0 hP hS (lv_sub hl [2, 1, 0] rfl) h

theorem dX2_put_0 : decode cX2_put 0 = .ok (.lload 5, 2) := by decide +kernel
theorem dX2_put_2 : decode cX2_put 2 = .ok (.lconst 0, 1) := by decide +kernel
theorem dX2_put_3 : decode cX2_put 3 = .ok (.lcmp, 1) := by decide +kernel
theorem dX2_put_4 : decode cX2_put 4 = .ok (.ifCond .ne 4, 3) := by decide +kernel
theorem dX2_put_7 : decode cX2_put 7 = .ok (.return_, 1) := by decide +kernel
theorem dX2_put_8 : decode cX2_put 8 = .ok (.lload 5, 2) := by decide +kernel
theorem dX2_put_10 : decode cX2_put 10 = .ok (.lconst 0, 1) := by decide +kernel
theorem dX2_put_11 : decode cX2_put 11 = .ok (.lcmp, 1) := by decide +kernel
theorem dX2_put_12 : decode cX2_put 12 = .ok (.ifCond .ge 9, 3) := by decide +kernel
theorem dX2_put_15 : decode cX2_put 15 = .ok (.ldc2_w 24, 3) := by decide +kernel
theorem dX2_put_18 : decode cX2_put 18 = .ok (.goto 4, 3) := by decide +kernel
theorem dX2_put_21 : decode cX2_put 21 = .ok (.lconst 1, 1) := by decide +kernel
theorem dX2_put_22 : decode cX2_put 22 = .ok (.lstore 7, 2) := by decide +kernel
theorem dX2_put_24 : decode cX2_put 24 = .ok (.lload 7, 2) := by decide +kernel
theorem dX2_put_26 : decode cX2_put 26 = .ok (.lload_n 1, 1) := by decide +kernel
theorem dX2_put_27 : decode cX2_put 27 = .ok (.lload 5, 2) := by decide +kernel
theorem dX2_put_29 : decode cX2_put 29 = .ok (.invokestatic 26, 3) := by decide +kernel
theorem dX2_put_32 : decode cX2_put 32 = .ok (.lmul, 1) := by decide +kernel
theorem dX2_put_33 : decode cX2_put 33 = .ok (.lstore 9, 2) := by decide +kernel
theorem dX2_put_35 : decode cX2_put 35 = .ok (.lload 7, 2) := by decide +kernel
theorem dX2_put_37 : decode cX2_put 37 = .ok (.lload_n 3, 1) := by decide +kernel
theorem dX2_put_38 : decode cX2_put 38 = .ok (.lload 5, 2) := by decide +kernel
theorem dX2_put_40 : decode cX2_put 40 = .ok (.invokestatic 26, 3) := by decide +kernel
theorem dX2_put_43 : decode cX2_put 43 = .ok (.lmul, 1) := by decide +kernel
theorem dX2_put_44 : decode cX2_put 44 = .ok (.lstore 11, 2) := by decide +kernel
theorem dX2_put_46 : decode cX2_put 46 = .ok (.lload 9, 2) := by decide +kernel
theorem dX2_put_48 : decode cX2_put 48 = .ok (.lconst 0, 1) := by decide +kernel
theorem dX2_put_49 : decode cX2_put 49 = .ok (.lcmp, 1) := by decide +kernel
theorem dX2_put_50 : decode cX2_put 50 = .ok (.ifCond .eq 10, 3) := by decide +kernel
theorem dX2_put_53 : decode cX2_put 53 = .ok (.lload 11, 2) := by decide +kernel
theorem dX2_put_55 : decode cX2_put 55 = .ok (.lconst 0, 1) := by decide +kernel
theorem dX2_put_56 : decode cX2_put 56 = .ok (.lcmp, 1) := by decide +kernel
theorem dX2_put_57 : decode cX2_put 57 = .ok (.ifCond .ne 4, 3) := by decide +kernel
theorem dX2_put_60 : decode cX2_put 60 = .ok (.return_, 1) := by decide +kernel
theorem dX2_put_61 : decode cX2_put 61 = .ok (.aload_n 0, 1) := by decide +kernel
theorem dX2_put_62 : decode cX2_put 62 = .ok (.lload_n 1, 1) := by decide +kernel
theorem dX2_put_63 : decode cX2_put 63 = .ok (.lload 9, 2) := by decide +kernel
theorem dX2_put_65 : decode cX2_put 65 = .ok (.ldiv, 1) := by decide +kernel
theorem dX2_put_66 : decode cX2_put 66 = .ok (.putfield 9, 3) := by decide +kernel
theorem dX2_put_69 : decode cX2_put 69 = .ok (.aload_n 0, 1) := by decide +kernel
theorem dX2_put_70 : decode cX2_put 70 = .ok (.lload 5, 2) := by decide +kernel
theorem dX2_put_72 : decode cX2_put 72 = .ok (.lload 9, 2) := by decide +kernel
theorem dX2_put_74 : decode cX2_put 74 = .ok (.ldiv, 1) := by decide +kernel
theorem dX2_put_75 : decode cX2_put 75 = .ok (.putfield 15, 3) := by decide +kernel
theorem dX2_put_78 : decode cX2_put 78 = .ok (.aload_n 0, 1) := by decide +kernel
theorem dX2_put_79 : decode cX2_put 79 = .ok (.lload_n 3, 1) := by decide +kernel
theorem dX2_put_80 : decode cX2_put 80 = .ok (.lload 11, 2) := by decide +kernel
theorem dX2_put_82 : decode cX2_put 82 = .ok (.ldiv, 1) := by decide +kernel
theorem dX2_put_83 : decode cX2_put 83 = .ok (.putfield 18, 3) := by decide +kernel
theorem dX2_put_86 : decode cX2_put 86 = .ok (.aload_n 0, 1) := by decide +kernel
theorem dX2_put_87 : decode cX2_put 87 = .ok (.lload 5, 2) := by decide +kernel
theorem dX2_put_89 : decode cX2_put 89 = .ok (.lload 11, 2) := by decide +kernel
theorem dX2_put_91 : decode cX2_put 91 = .ok (.ldiv, 1) := by decide +kernel
theorem dX2_put_92 : decode cX2_put 92 = .ok (.putfield 21, 3) := by decide +kernel
theorem dX2_put_95 : decode cX2_put 95 = .ok (.return_, 1) := by decide +kernel
def f_X2_put_b22 (F : Nat) (S : CS) (a0 : Nat) (D : CD) (x1 : Int64) (x3 : Int64) (x5 : Int64) (s0 : Int64) : Option CD := cal (f_X2_commonDivisor F S D x1 x5) fun t2 => cal (f_X2_commonDivisor F S D x3 x5) fun t4 => (if (lg_cmp (s0 * t2) 0) = 0 then some D else (if (lg_cmp (s0 * t4) 0) = 0 then some D else dvL (s0 * t2) <| ckK S a0 2 <| cgW D a0 0 (x1 / (s0 * t2)) fun D9 => dvL (s0 * t2) <| cgW D9 a0 1 (x5 / (s0 * t2)) fun D12 => dvL (s0 * t4) <| cgW D12 a0 2 (x3 / (s0 * t4)) fun D15 => dvL (s0 * t4) <| cgW D15 a0 3 (x5 / (s0 * t4)) fun D18 => some D18))
def f_X2_put (F : Nat) (S : CS) (D : CD) (a0 : Nat) (a1 : Int64) (a2 : Int64) (a3 : Int64) : Option CD := (if (lg_cmp a3 0) = 0 then some D else (if 0 ≤ (lg_cmp a3 0) then f_X2_put_b22 F S a0 D a1 a2 a3 1 else f_X2_put_b22 F S a0 D a1 a2 a3 ((-1))))
set_option maxRecDepth 100000 in
set_option maxHeartbeats 4000000 in
theorem m_X2_put (l : Launch) (G : cG) (F : Nat) (S : CS) (D D2 : CD) (a0 : Nat) (a1 : Int64) (a2 : Int64) (a3 : Int64) (h : f_X2_put F S D a0 a1 a2 a3 = some D2) : cMV l yX2_put vX2_put ({ frames := 2, cells := 0, slots := 0, locals := 51 }) G S [.ref a0, .long a1, .long a2, .long a3] D D2 := by
  refine cBodyV (cc := cX2_put) (maxL := 13) (ret := none) (own := RX2) (by decide) rfl rfl ?_
  intro sz p e s m below meth c hC hP
  have hC0 := hC
  obtain ⟨hx, hb, -, hts, hown, -, hml, -, -, -⟩ := hC0
  have hS : va_S (cA G S sz) s.heap s.heap [] := va_S.rf
  have hin_X2 : ∀ w ∈ wsX20, w ∈ vX2_put := fun w h => List.mem_cons_of_mem _ (hWC2 w h)
  have fl_X2_xOver := hts _ (List.mem_cons_of_mem _ wc_125)
  have fl_X2_xUnder := hts _ (List.mem_cons_of_mem _ wc_126)
  have fl_X2_yOver := hts _ (List.mem_cons_of_mem _ wc_127)
  have fl_X2_yUnder := hts _ (List.mem_cons_of_mem _ wc_128)
  have b22 : ∀ (H : Heap) (locs : List Loc) (ls : Array Slot) (D : CD) (x1 : Int64) (x3 : Int64) (x5 : Int64) (s0 : Int64), va_P G.1 vwCl (cW G S D) H → va_S (cA G S sz) s.heap H locs → lv_has ls 13 [(0, .ref a0), (1, .long x1), (3, .long x3), (5, .long x5)] → f_X2_put_b22 F S a0 D x1 x3 x5 s0 = some D2 → W p l e (headSpec vX2_put ({ frames := 2, cells := 0, slots := 0, locals := 51 })).room s m ([.ref a0, .long a1, .long a2, .long a3] : List Value).toArray below meth c H locs 0 0 (cQV below G S D2 sz ([.ref a0, .long a1, .long a2, .long a3] : List Value).toArray s) (F0 m 22 ls [.long s0]) := by
    intro H locs ls D x1 x3 x5 s0 hP hS hl h
    unfold f_X2_put_b22 at h
    refine lv_lstore (lv' := [(7, .long s0), (0, .ref a0), (1, .long x1), (3, .long x3), (5, .long x5)]) hx hb dX2_put_22 hl (by decide) rfl (fun ls hl => ?_)
    refine lv_lload hx hb dX2_put_24 (lv_at hl 0 rfl) ?_
    refine lv_lload_n hx hb dX2_put_26 rfl (lv_at hl 2 rfl) ?_
    refine lv_lload hx hb dX2_put_27 (lv_at hl 4 rfl) ?_
    obtain ⟨t2, e1, h⟩ := cal_el h
    refine c_SL (As := [.long x1, .long x5]) (rest := [.long s0]) hC hP hS (m_X2_commonDivisor l G F S D x1 x5 t2 e1) (va_cwS 2 hts (gWCS wc_129 wc_130 wc_131 wc_119) rfl rfl rfl (by decide +kernel) ⟨Nat.le_of_ble_eq_true rfl, Nat.le_of_ble_eq_true rfl⟩) rfl hl.1 rfl (Nat.le_of_ble_eq_true rfl) dX2_put_29 (fun H locs hP hS => ?_)
    refine lv_lmul hx hb dX2_put_32 ?_
    refine lv_lstore (lv' := [(9, .long (s0 * t2)), (7, .long s0), (0, .ref a0), (1, .long x1), (3, .long x3), (5, .long x5)]) hx hb dX2_put_33 hl (by decide) rfl (fun ls hl => ?_)
    refine lv_lload hx hb dX2_put_35 (lv_at hl 1 rfl) ?_
    refine lv_lload_n hx hb dX2_put_37 rfl (lv_at hl 4 rfl) ?_
    refine lv_lload hx hb dX2_put_38 (lv_at hl 5 rfl) ?_
    obtain ⟨t4, e3, h⟩ := cal_el h
    refine c_SL (As := [.long x3, .long x5]) (rest := [.long s0]) hC hP hS (m_X2_commonDivisor l G F S D x3 x5 t4 e3) (va_cwS 2 hts (gWCS wc_129 wc_130 wc_131 wc_119) rfl rfl rfl (by decide +kernel) ⟨Nat.le_of_ble_eq_true rfl, Nat.le_of_ble_eq_true rfl⟩) rfl hl.1 rfl (Nat.le_of_ble_eq_true rfl) dX2_put_40 (fun H locs hP hS => ?_)
    refine lv_lmul hx hb dX2_put_43 ?_
    refine lv_lstore (lv' := [(11, .long (s0 * t4)), (9, .long (s0 * t2)), (7, .long s0), (0, .ref a0), (1, .long x1), (3, .long x3), (5, .long x5)]) hx hb dX2_put_44 hl (by decide) rfl (fun ls hl => ?_)
    refine lv_lload hx hb dX2_put_46 (lv_at hl 1 rfl) ?_
    refine lv_lconst (v := 0) hx hb dX2_put_48 (by decide) ?_
    refine W.lcmp hx hb dX2_put_49 ?_
    refine lv_if_eq (tgt := 60) hx hb dX2_put_50 (by decide) (fun u5 => ?_) (fun u5 => ?_)
    · have h := ite_t u5 h
      cases h
      exact c_vret hC hP hS dX2_put_60
    · have h := ite_f u5 h
      refine lv_lload hx hb dX2_put_53 (lv_at hl 0 rfl) ?_
      refine lv_lconst (v := 0) hx hb dX2_put_55 (by decide) ?_
      refine W.lcmp hx hb dX2_put_56 ?_
      refine lv_if_ne (tgt := 61) hx hb dX2_put_57 (by decide) (fun u6 => ?_) (fun u6 => ?_)
      · have h := ite_f u6 h
        refine lv_aload_n hx hb dX2_put_61 rfl (lv_at hl 3 rfl) ?_
        refine lv_lload_n hx hb dX2_put_62 rfl (lv_at hl 4 rfl) ?_
        refine lv_lload hx hb dX2_put_63 (lv_at hl 1 rfl) ?_
        obtain ⟨z7, h⟩ := dvL_el h
        refine lv_ldiv hx hb dX2_put_65 z7 ?_
        obtain ⟨z8, h⟩ := ckK_el h
        obtain ⟨D9, e10, h⟩ := cgW_el h
        refine c_putL (C := RX2) (T := TX2) (N := 4) (ref := "SegmentMap$Point") (ci := 3) hC hin_X2 tyX2 tyX2_ok nmX2 hP hS z8.1 (cE_2 z8.2) rfl 0 (by decide) fl_X2_xOver rfl rfl (by decide +kernel) (Nat.le_of_ble_eq_true rfl) e10 (cset_2_0 G z8.2 _) dX2_put_66 (fun H locs hP hS => ?_)
        refine lv_aload_n hx hb dX2_put_69 rfl (lv_at hl 3 rfl) ?_
        refine lv_lload hx hb dX2_put_70 (lv_at hl 6 rfl) ?_
        refine lv_lload hx hb dX2_put_72 (lv_at hl 1 rfl) ?_
        obtain ⟨z11, h⟩ := dvL_el h
        refine lv_ldiv hx hb dX2_put_74 z11 ?_
        obtain ⟨D12, e13, h⟩ := cgW_el h
        refine c_putL (C := RX2) (T := TX2) (N := 4) (ref := "SegmentMap$Point") (ci := 3) hC hin_X2 tyX2 tyX2_ok nmX2 hP hS z8.1 (cE_2 z8.2) rfl 1 (by decide) fl_X2_xUnder rfl rfl (by decide +kernel) (Nat.le_of_ble_eq_true rfl) e13 (cset_2_1 G z8.2 _) dX2_put_75 (fun H locs hP hS => ?_)
        refine lv_aload_n hx hb dX2_put_78 rfl (lv_at hl 3 rfl) ?_
        refine lv_lload_n hx hb dX2_put_79 rfl (lv_at hl 5 rfl) ?_
        refine lv_lload hx hb dX2_put_80 (lv_at hl 0 rfl) ?_
        obtain ⟨z14, h⟩ := dvL_el h
        refine lv_ldiv hx hb dX2_put_82 z14 ?_
        obtain ⟨D15, e16, h⟩ := cgW_el h
        refine c_putL (C := RX2) (T := TX2) (N := 4) (ref := "SegmentMap$Point") (ci := 3) hC hin_X2 tyX2 tyX2_ok nmX2 hP hS z8.1 (cE_2 z8.2) rfl 2 (by decide) fl_X2_yOver rfl rfl (by decide +kernel) (Nat.le_of_ble_eq_true rfl) e16 (cset_2_2 G z8.2 _) dX2_put_83 (fun H locs hP hS => ?_)
        refine lv_aload_n hx hb dX2_put_86 rfl (lv_at hl 3 rfl) ?_
        refine lv_lload hx hb dX2_put_87 (lv_at hl 6 rfl) ?_
        refine lv_lload hx hb dX2_put_89 (lv_at hl 0 rfl) ?_
        obtain ⟨z17, h⟩ := dvL_el h
        refine lv_ldiv hx hb dX2_put_91 z17 ?_
        obtain ⟨D18, e19, h⟩ := cgW_el h
        refine c_putL (C := RX2) (T := TX2) (N := 4) (ref := "SegmentMap$Point") (ci := 3) hC hin_X2 tyX2 tyX2_ok nmX2 hP hS z8.1 (cE_2 z8.2) rfl 3 (by decide) fl_X2_yUnder rfl rfl (by decide +kernel) (Nat.le_of_ble_eq_true rfl) e19 (cset_2_3 G z8.2 _) dX2_put_92 (fun H locs hP hS => ?_)
        cases h
        exact c_vret hC hP hS dX2_put_95
      · have h := ite_t u6 h
        cases h
        exact c_vret hC hP hS dX2_put_60
  refine m_entry (Nat.le_of_ble_eq_true rfl) (fun ls hl => ?_)
  have hl : lv_has ls 13 [(0, .ref a0), (1, .long a1), (3, .long a2), (5, .long a3)] := hl
  unfold f_X2_put at h
  refine lv_lload hx hb dX2_put_0 (lv_at hl 3 rfl) ?_
  refine lv_lconst (v := 0) hx hb dX2_put_2 (by decide) ?_
  refine W.lcmp hx hb dX2_put_3 ?_
  refine lv_if_ne (tgt := 8) hx hb dX2_put_4 (by decide) (fun u1 => ?_) (fun u1 => ?_)
  · have h := ite_f u1 h
    refine lv_lload hx hb dX2_put_8 (lv_at hl 3 rfl) ?_
    refine lv_lconst (v := 0) hx hb dX2_put_10 (by decide) ?_
    refine W.lcmp hx hb dX2_put_11 ?_
    refine lv_if_ge (tgt := 21) hx hb dX2_put_12 (by decide) (fun u2 => ?_) (fun u2 => ?_)
    · have h := ite_t u2 h
      refine lv_lconst (v := 1) hx hb dX2_put_21 (by decide) ?_
      exact b22 _ _ _ D a1 a2 a3 1 hP hS (lv_sub hl [0, 1, 2, 3] rfl) h
    · have h := ite_f u2 h
      refine lv_ldc2 (v := (-1)) hx hb hown (hts _ (List.mem_cons_of_mem _ (List.mem_append_left _ (by decide +kernel) : Cond.constantLong RX2 24 (-1) ∈ WC))) dX2_put_15 ?_
      refine lv_goto (tgt := 22) hx hb dX2_put_18 (by decide) ?_
      exact b22 _ _ _ D a1 a2 a3 ((-1)) hP hS (lv_sub hl [0, 1, 2, 3] rfl) h
  · have h := ite_t u1 h
    cases h
    exact c_vret hC hP hS dX2_put_7

theorem dX4_height_0 : decode cX4_height 0 = .ok (.aload_n 0, 1) := by decide +kernel
theorem dX4_height_1 : decode cX4_height 1 = .ok (.getfield 15, 3) := by decide +kernel
theorem dX4_height_4 : decode cX4_height 4 = .ok (.i2l, 1) := by decide +kernel
theorem dX4_height_5 : decode cX4_height 5 = .ok (.aload_n 0, 1) := by decide +kernel
theorem dX4_height_6 : decode cX4_height 6 = .ok (.getfield 24, 3) := by decide +kernel
theorem dX4_height_9 : decode cX4_height 9 = .ok (.lmul, 1) := by decide +kernel
theorem dX4_height_10 : decode cX4_height 10 = .ok (.aload_n 1, 1) := by decide +kernel
theorem dX4_height_11 : decode cX4_height 11 = .ok (.getfield 70, 3) := by decide +kernel
theorem dX4_height_14 : decode cX4_height 14 = .ok (.lmul, 1) := by decide +kernel
theorem dX4_height_15 : decode cX4_height 15 = .ok (.aload_n 1, 1) := by decide +kernel
theorem dX4_height_16 : decode cX4_height 16 = .ok (.getfield 73, 3) := by decide +kernel
theorem dX4_height_19 : decode cX4_height 19 = .ok (.aload_n 0, 1) := by decide +kernel
theorem dX4_height_20 : decode cX4_height 20 = .ok (.getfield 9, 3) := by decide +kernel
theorem dX4_height_23 : decode cX4_height 23 = .ok (.i2l, 1) := by decide +kernel
theorem dX4_height_24 : decode cX4_height 24 = .ok (.aload_n 1, 1) := by decide +kernel
theorem dX4_height_25 : decode cX4_height 25 = .ok (.getfield 70, 3) := by decide +kernel
theorem dX4_height_28 : decode cX4_height 28 = .ok (.lmul, 1) := by decide +kernel
theorem dX4_height_29 : decode cX4_height 29 = .ok (.lsub, 1) := by decide +kernel
theorem dX4_height_30 : decode cX4_height 30 = .ok (.aload_n 0, 1) := by decide +kernel
theorem dX4_height_31 : decode cX4_height 31 = .ok (.getfield 28, 3) := by decide +kernel
theorem dX4_height_34 : decode cX4_height 34 = .ok (.lmul, 1) := by decide +kernel
theorem dX4_height_35 : decode cX4_height 35 = .ok (.ladd, 1) := by decide +kernel
theorem dX4_height_36 : decode cX4_height 36 = .ok (.lreturn, 1) := by decide +kernel
def f_X4_height (F : Nat) (S : CS) (D : CD) (a0 : Nat) (a1 : Nat) : Option Int64 := ckK S a0 4 <| ckK S a1 2 <| some (((((D.1 a0 1).toInt64) * (D.2.1 a0 4)) * (D.2.1 a1 1)) + (((D.2.1 a1 0) - (((D.1 a0 0).toInt64) * (D.2.1 a1 1))) * (D.2.1 a0 5)))
set_option maxRecDepth 100000 in
set_option maxHeartbeats 4000000 in
theorem m_X4_height (l : Launch) (G : cG) (F : Nat) (S : CS) (D : CD) (a0 : Nat) (a1 : Nat) (r : Int64) (h : f_X4_height F S D a0 a1 = some r) : cML l yX4_height vX4_height ({ frames := 0, cells := 0, slots := 0, locals := 0 }) G S [.ref a0, .ref a1] D D r := by
  refine cBodyL (cc := cX4_height) (maxL := 2) (ret := (some .long)) (own := RX4) (by decide) rfl rfl ?_
  intro sz p e s m below meth c hC hP
  have hC0 := hC
  obtain ⟨hx, hb, -, hts, hown, -, hml, -, -, -⟩ := hC0
  have hS : va_S (cA G S sz) s.heap s.heap [] := va_S.rf
  have hin_X2 : ∀ w ∈ wsX20, w ∈ vX4_height := fun w h => List.mem_cons_of_mem _ (hWC2 w h)
  have hin_X4 : ∀ w ∈ wsX40, w ∈ vX4_height := fun w h => List.mem_cons_of_mem _ (hWC4 w h)
  have fl_X4_startY := hts _ (List.mem_cons_of_mem _ wc_34)
  have fl_X4_run := hts _ (List.mem_cons_of_mem _ wc_30)
  have fl_X4_startX := hts _ (List.mem_cons_of_mem _ wc_33)
  have fl_X4_rise := hts _ (List.mem_cons_of_mem _ wc_31)
  refine m_entry (Nat.le_of_ble_eq_true rfl) (fun ls hl => ?_)
  have hl : lv_has ls 2 [(0, .ref a0), (1, .ref a1)] := hl
  unfold f_X4_height at h
  refine lv_aload_n hx hb dX4_height_0 rfl (lv_at hl 0 rfl) ?_
  obtain ⟨z1, h⟩ := ckK_el h
  refine c_get (C := RX4) (T := TX4) (N := 6) (ref := "SegmentMap$Segment") (ci := 5) (v := .int (D.1 a0 1)) hC hin_X4 hP z1.1 (cE_4 z1.2) rfl 1 (by decide) fl_X4_startY rfl rfl dX4_height_1 ?_
  refine lv_i2l (v := (D.1 a0 1).toInt64) hx hb dX4_height_4 rfl ?_
  refine lv_aload_n hx hb dX4_height_5 rfl (lv_at hl 0 rfl) ?_
  refine c_get (C := RX4) (T := TX4) (N := 6) (ref := "SegmentMap$Segment") (ci := 5) (v := .long (D.2.1 a0 4)) hC hin_X4 hP z1.1 (cE_4 z1.2) rfl 4 (by decide) fl_X4_run rfl rfl dX4_height_6 ?_
  refine lv_lmul hx hb dX4_height_9 ?_
  refine lv_aload_n hx hb dX4_height_10 rfl (lv_at hl 1 rfl) ?_
  obtain ⟨z2, h⟩ := ckK_el h
  refine c_getN (C := RX2) (T := TX2) (N := 4) (ref := "SegmentMap$Point") (ci := 3) (v := .long (D.2.1 a1 1)) hC hin_X2 hP z2.1 (cE_2 z2.2) rfl 1 (by decide) (nm := "xUnder") (ds := "J") (List.mem_of_getElem? (i := 22) rfl) rfl rfl dX4_height_11 ?_
  refine lv_lmul hx hb dX4_height_14 ?_
  refine lv_aload_n hx hb dX4_height_15 rfl (lv_at hl 1 rfl) ?_
  refine c_getN (C := RX2) (T := TX2) (N := 4) (ref := "SegmentMap$Point") (ci := 3) (v := .long (D.2.1 a1 0)) hC hin_X2 hP z2.1 (cE_2 z2.2) rfl 0 (by decide) (nm := "xOver") (ds := "J") (List.mem_of_getElem? (i := 23) rfl) rfl rfl dX4_height_16 ?_
  refine lv_aload_n hx hb dX4_height_19 rfl (lv_at hl 0 rfl) ?_
  refine c_get (C := RX4) (T := TX4) (N := 6) (ref := "SegmentMap$Segment") (ci := 5) (v := .int (D.1 a0 0)) hC hin_X4 hP z1.1 (cE_4 z1.2) rfl 0 (by decide) fl_X4_startX rfl rfl dX4_height_20 ?_
  refine lv_i2l (v := (D.1 a0 0).toInt64) hx hb dX4_height_23 rfl ?_
  refine lv_aload_n hx hb dX4_height_24 rfl (lv_at hl 1 rfl) ?_
  refine c_getN (C := RX2) (T := TX2) (N := 4) (ref := "SegmentMap$Point") (ci := 3) (v := .long (D.2.1 a1 1)) hC hin_X2 hP z2.1 (cE_2 z2.2) rfl 1 (by decide) (nm := "xUnder") (ds := "J") (List.mem_of_getElem? (i := 22) rfl) rfl rfl dX4_height_25 ?_
  refine lv_lmul hx hb dX4_height_28 ?_
  refine lv_lsub hx hb dX4_height_29 ?_
  refine lv_aload_n hx hb dX4_height_30 rfl (lv_at hl 0 rfl) ?_
  refine c_get (C := RX4) (T := TX4) (N := 6) (ref := "SegmentMap$Segment") (ci := 5) (v := .long (D.2.1 a0 5)) hC hin_X4 hP z1.1 (cE_4 z1.2) rfl 5 (by decide) fl_X4_rise rfl rfl dX4_height_31 ?_
  refine lv_lmul hx hb dX4_height_34 ?_
  refine lv_ladd hx hb dX4_height_35 ?_
  cases h
  exact c_lret hC hP hS rfl dX4_height_36

theorem dJ13_compare_74951_0 : decode cJ13_compare_74951 0 = .ok (.lload_n 0, 1) := by decide +kernel
theorem dJ13_compare_74951_1 : decode cJ13_compare_74951 1 = .ok (.lload_n 2, 1) := by decide +kernel
theorem dJ13_compare_74951_2 : decode cJ13_compare_74951 2 = .ok (.lcmp, 1) := by decide +kernel
theorem dJ13_compare_74951_3 : decode cJ13_compare_74951 3 = .ok (.ifCond .ge 7, 3) := by decide +kernel
theorem dJ13_compare_74951_6 : decode cJ13_compare_74951 6 = .ok (.iconst (-1), 1) := by decide +kernel
theorem dJ13_compare_74951_7 : decode cJ13_compare_74951 7 = .ok (.goto 14, 3) := by decide +kernel
theorem dJ13_compare_74951_10 : decode cJ13_compare_74951 10 = .ok (.lload_n 0, 1) := by decide +kernel
theorem dJ13_compare_74951_11 : decode cJ13_compare_74951 11 = .ok (.lload_n 2, 1) := by decide +kernel
theorem dJ13_compare_74951_12 : decode cJ13_compare_74951 12 = .ok (.lcmp, 1) := by decide +kernel
theorem dJ13_compare_74951_13 : decode cJ13_compare_74951 13 = .ok (.ifCond .ne 7, 3) := by decide +kernel
theorem dJ13_compare_74951_16 : decode cJ13_compare_74951 16 = .ok (.iconst 0, 1) := by decide +kernel
theorem dJ13_compare_74951_17 : decode cJ13_compare_74951 17 = .ok (.goto 4, 3) := by decide +kernel
theorem dJ13_compare_74951_20 : decode cJ13_compare_74951 20 = .ok (.iconst 1, 1) := by decide +kernel
theorem dJ13_compare_74951_21 : decode cJ13_compare_74951 21 = .ok (.ireturn, 1) := by decide +kernel
def f_J13_compare_74951 (F : Nat) (S : CS) (D : CD) (a1 : Int64) (a2 : Int64) : Option Int32 := (if 0 ≤ (lg_cmp a1 a2) then (if (lg_cmp a1 a2) = 0 then some 0 else some 1) else some ((-1)))
set_option maxRecDepth 100000 in
set_option maxHeartbeats 4000000 in
theorem m_J13_compare_74951 (l : Launch) (G : cG) (F : Nat) (S : CS) (D : CD) (a1 : Int64) (a2 : Int64) (r : Int32) (h : f_J13_compare_74951 F S D a1 a2 = some r) : cMI l yJ13_compare_74951 vJ13_compare_74951 ({ frames := 0, cells := 0, slots := 0, locals := 0 }) G S [.long a1, .long a2] D D r := by
  refine cBodyI (cc := cJ13_compare_74951) (maxL := 4) (ret := (some .int)) (own := RJ13) (by decide) rfl rfl ?_
  intro sz p e s m below meth c hC hP
  have hC0 := hC
  obtain ⟨hx, hb, -, hts, hown, -, hml, -, -, -⟩ := hC0
  have hS : va_S (cA G S sz) s.heap s.heap [] := va_S.rf
  refine m_entry (Nat.le_of_ble_eq_true rfl) (fun ls hl => ?_)
  have hl : lv_has ls 4 [(0, .long a1), (2, .long a2)] := hl
  unfold f_J13_compare_74951 at h
  refine lv_lload_n hx hb dJ13_compare_74951_0 rfl (lv_at hl 0 rfl) ?_
  refine lv_lload_n hx hb dJ13_compare_74951_1 rfl (lv_at hl 1 rfl) ?_
  refine W.lcmp hx hb dJ13_compare_74951_2 ?_
  refine lv_if_ge (tgt := 10) hx hb dJ13_compare_74951_3 (by decide) (fun u1 => ?_) (fun u1 => ?_)
  · have h := ite_t u1 h
    refine lv_lload_n hx hb dJ13_compare_74951_10 rfl (lv_at hl 0 rfl) ?_
    refine lv_lload_n hx hb dJ13_compare_74951_11 rfl (lv_at hl 1 rfl) ?_
    refine W.lcmp hx hb dJ13_compare_74951_12 ?_
    refine lv_if_ne (tgt := 20) hx hb dJ13_compare_74951_13 (by decide) (fun u2 => ?_) (fun u2 => ?_)
    · have h := ite_f u2 h
      refine lv_iconst (v := 1) hx hb dJ13_compare_74951_20 (by decide) ?_
      cases h
      exact c_iret hC hP hS rfl dJ13_compare_74951_21
    · have h := ite_t u2 h
      refine lv_iconst (v := 0) hx hb dJ13_compare_74951_16 (by decide) ?_
      refine lv_goto (tgt := 21) hx hb dJ13_compare_74951_17 (by decide) ?_
      cases h
      exact c_iret hC hP hS rfl dJ13_compare_74951_21
  · have h := ite_f u1 h
    refine lv_iconst (v := (-1)) hx hb dJ13_compare_74951_6 (by decide) ?_
    refine lv_goto (tgt := 21) hx hb dJ13_compare_74951_7 (by decide) ?_
    cases h
    exact c_iret hC hP hS rfl dJ13_compare_74951_21

theorem dX4_compareHeight_0 : decode cX4_compareHeight 0 = .ok (.aload_n 0, 1) := by decide +kernel
theorem dX4_compareHeight_1 : decode cX4_compareHeight 1 = .ok (.aload_n 1, 1) := by decide +kernel
theorem dX4_compareHeight_2 : decode cX4_compareHeight 2 = .ok (.invokevirtual 76, 3) := by decide +kernel
theorem dX4_compareHeight_5 : decode cX4_compareHeight 5 = .ok (.aload_n 1, 1) := by decide +kernel
theorem dX4_compareHeight_6 : decode cX4_compareHeight 6 = .ok (.getfield 80, 3) := by decide +kernel
theorem dX4_compareHeight_9 : decode cX4_compareHeight 9 = .ok (.lmul, 1) := by decide +kernel
theorem dX4_compareHeight_10 : decode cX4_compareHeight 10 = .ok (.aload_n 1, 1) := by decide +kernel
theorem dX4_compareHeight_11 : decode cX4_compareHeight 11 = .ok (.getfield 83, 3) := by decide +kernel
theorem dX4_compareHeight_14 : decode cX4_compareHeight 14 = .ok (.aload_n 0, 1) := by decide +kernel
theorem dX4_compareHeight_15 : decode cX4_compareHeight 15 = .ok (.getfield 24, 3) := by decide +kernel
theorem dX4_compareHeight_18 : decode cX4_compareHeight 18 = .ok (.lmul, 1) := by decide +kernel
theorem dX4_compareHeight_19 : decode cX4_compareHeight 19 = .ok (.aload_n 1, 1) := by decide +kernel
theorem dX4_compareHeight_20 : decode cX4_compareHeight 20 = .ok (.getfield 70, 3) := by decide +kernel
theorem dX4_compareHeight_23 : decode cX4_compareHeight 23 = .ok (.lmul, 1) := by decide +kernel
theorem dX4_compareHeight_24 : decode cX4_compareHeight 24 = .ok (.invokestatic 35, 3) := by decide +kernel
theorem dX4_compareHeight_27 : decode cX4_compareHeight 27 = .ok (.ireturn, 1) := by decide +kernel
def f_X4_compareHeight (F : Nat) (S : CS) (D : CD) (a0 : Nat) (a1 : Nat) : Option Int32 := ckK S a0 4 <| cal (f_X4_height F S D a0 a1) fun t3 => ckK S a1 2 <| cal (f_J13_compare_74951 F S D (t3 * (D.2.1 a1 3)) (((D.2.1 a1 2) * (D.2.1 a0 4)) * (D.2.1 a1 1))) fun t6 => some t6
set_option maxRecDepth 100000 in
set_option maxHeartbeats 4000000 in
theorem m_X4_compareHeight (l : Launch) (G : cG) (F : Nat) (S : CS) (D : CD) (a0 : Nat) (a1 : Nat) (r : Int32) (h : f_X4_compareHeight F S D a0 a1 = some r) : cMI l yX4_compareHeight vX4_compareHeight ({ frames := 1, cells := 0, slots := 0, locals := 23 }) G S [.ref a0, .ref a1] D D r := by
  refine cBodyI (cc := cX4_compareHeight) (maxL := 2) (ret := (some .int)) (own := RX4) (by decide) rfl rfl ?_
  intro sz p e s m below meth c hC hP
  have hC0 := hC
  obtain ⟨hx, hb, -, hts, hown, -, hml, -, -, -⟩ := hC0
  have hS : va_S (cA G S sz) s.heap s.heap [] := va_S.rf
  have hin_X2 : ∀ w ∈ wsX20, w ∈ vX4_compareHeight := fun w h => List.mem_cons_of_mem _ (hWC2 w h)
  have hin_X4 : ∀ w ∈ wsX40, w ∈ vX4_compareHeight := fun w h => List.mem_cons_of_mem _ (hWC4 w h)
  have fl_X4_run := hts _ (List.mem_cons_of_mem _ wc_30)
  refine m_entry (Nat.le_of_ble_eq_true rfl) (fun ls hl => ?_)
  have hl : lv_has ls 2 [(0, .ref a0), (1, .ref a1)] := hl
  unfold f_X4_compareHeight at h
  refine lv_aload_n hx hb dX4_compareHeight_0 rfl (lv_at hl 0 rfl) ?_
  refine lv_aload_n hx hb dX4_compareHeight_1 rfl (lv_at hl 1 rfl) ?_
  obtain ⟨z1, h⟩ := ckK_el h
  obtain ⟨t3, e2, h⟩ := cal_el h
  refine c_VL (As := [.ref a1]) (rest := []) hC hP hS z1.1 (cE_4 z1.2) (C := RX4) (T := TX4) (N := 6) rfl (m_X4_height l G F S D a0 a1 t3 e2) (cwV 1 hts (gWC wc_135 wc_136 wc_137 wc_48 wc_132) rfl rfl rfl (by decide +kernel) ⟨Nat.le_of_ble_eq_true rfl, Nat.le_of_ble_eq_true rfl⟩) rfl hl.1 rfl (Nat.le_of_ble_eq_true rfl) dX4_compareHeight_2 (fun H locs hP hS => ?_)
  refine lv_aload_n hx hb dX4_compareHeight_5 rfl (lv_at hl 1 rfl) ?_
  obtain ⟨z4, h⟩ := ckK_el h
  refine c_getN (C := RX2) (T := TX2) (N := 4) (ref := "SegmentMap$Point") (ci := 3) (v := .long (D.2.1 a1 3)) hC hin_X2 hP z4.1 (cE_2 z4.2) rfl 3 (by decide) (nm := "yUnder") (ds := "J") (List.mem_of_getElem? (i := 24) rfl) rfl rfl dX4_compareHeight_6 ?_
  refine lv_lmul hx hb dX4_compareHeight_9 ?_
  refine lv_aload_n hx hb dX4_compareHeight_10 rfl (lv_at hl 1 rfl) ?_
  refine c_getN (C := RX2) (T := TX2) (N := 4) (ref := "SegmentMap$Point") (ci := 3) (v := .long (D.2.1 a1 2)) hC hin_X2 hP z4.1 (cE_2 z4.2) rfl 2 (by decide) (nm := "yOver") (ds := "J") (List.mem_of_getElem? (i := 25) rfl) rfl rfl dX4_compareHeight_11 ?_
  refine lv_aload_n hx hb dX4_compareHeight_14 rfl (lv_at hl 0 rfl) ?_
  refine c_get (C := RX4) (T := TX4) (N := 6) (ref := "SegmentMap$Segment") (ci := 5) (v := .long (D.2.1 a0 4)) hC hin_X4 hP z1.1 (cE_4 z1.2) rfl 4 (by decide) fl_X4_run rfl rfl dX4_compareHeight_15 ?_
  refine lv_lmul hx hb dX4_compareHeight_18 ?_
  refine lv_aload_n hx hb dX4_compareHeight_19 rfl (lv_at hl 1 rfl) ?_
  refine c_getN (C := RX2) (T := TX2) (N := 4) (ref := "SegmentMap$Point") (ci := 3) (v := .long (D.2.1 a1 1)) hC hin_X2 hP z4.1 (cE_2 z4.2) rfl 1 (by decide) (nm := "xUnder") (ds := "J") (List.mem_of_getElem? (i := 22) rfl) rfl rfl dX4_compareHeight_20 ?_
  refine lv_lmul hx hb dX4_compareHeight_23 ?_
  obtain ⟨t6, e5, h⟩ := cal_el h
  refine c_SI (As := [.long (t3 * (D.2.1 a1 3)), .long (((D.2.1 a1 2) * (D.2.1 a0 4)) * (D.2.1 a1 1))]) (rest := []) hC hP hS (m_J13_compare_74951 l G F S D (t3 * (D.2.1 a1 3)) (((D.2.1 a1 2) * (D.2.1 a0 4)) * (D.2.1 a1 1)) t6 e5) (va_cwS 2 hts (gWCS wc_138 wc_139 wc_140 wc_133) rfl rfl rfl (by decide +kernel) ⟨Nat.le_of_ble_eq_true rfl, Nat.le_of_ble_eq_true rfl⟩) rfl hl.1 rfl (Nat.le_of_ble_eq_true rfl) dX4_compareHeight_24 (fun H locs hP hS => ?_)
  cases h
  exact c_iret hC hP hS rfl dX4_compareHeight_27

theorem dX4_holds_0 : decode cX4_holds 0 = .ok (.aload_n 0, 1) := by decide +kernel
theorem dX4_holds_1 : decode cX4_holds 1 = .ok (.getfield 9, 3) := by decide +kernel
theorem dX4_holds_4 : decode cX4_holds 4 = .ok (.i2l, 1) := by decide +kernel
theorem dX4_holds_5 : decode cX4_holds 5 = .ok (.aload_n 1, 1) := by decide +kernel
theorem dX4_holds_6 : decode cX4_holds 6 = .ok (.getfield 70, 3) := by decide +kernel
theorem dX4_holds_9 : decode cX4_holds 9 = .ok (.lmul, 1) := by decide +kernel
theorem dX4_holds_10 : decode cX4_holds 10 = .ok (.aload_n 1, 1) := by decide +kernel
theorem dX4_holds_11 : decode cX4_holds 11 = .ok (.getfield 73, 3) := by decide +kernel
theorem dX4_holds_14 : decode cX4_holds 14 = .ok (.lcmp, 1) := by decide +kernel
theorem dX4_holds_15 : decode cX4_holds 15 = .ok (.ifCond .gt 83, 3) := by decide +kernel
theorem dX4_holds_18 : decode cX4_holds 18 = .ok (.aload_n 1, 1) := by decide +kernel
theorem dX4_holds_19 : decode cX4_holds 19 = .ok (.getfield 73, 3) := by decide +kernel
theorem dX4_holds_22 : decode cX4_holds 22 = .ok (.aload_n 0, 1) := by decide +kernel
theorem dX4_holds_23 : decode cX4_holds 23 = .ok (.getfield 18, 3) := by decide +kernel
theorem dX4_holds_26 : decode cX4_holds 26 = .ok (.i2l, 1) := by decide +kernel
theorem dX4_holds_27 : decode cX4_holds 27 = .ok (.aload_n 1, 1) := by decide +kernel
theorem dX4_holds_28 : decode cX4_holds 28 = .ok (.getfield 70, 3) := by decide +kernel
theorem dX4_holds_31 : decode cX4_holds 31 = .ok (.lmul, 1) := by decide +kernel
theorem dX4_holds_32 : decode cX4_holds 32 = .ok (.lcmp, 1) := by decide +kernel
theorem dX4_holds_33 : decode cX4_holds 33 = .ok (.ifCond .gt 65, 3) := by decide +kernel
theorem dX4_holds_36 : decode cX4_holds 36 = .ok (.aload_n 0, 1) := by decide +kernel
theorem dX4_holds_37 : decode cX4_holds 37 = .ok (.getfield 15, 3) := by decide +kernel
theorem dX4_holds_40 : decode cX4_holds 40 = .ok (.aload_n 0, 1) := by decide +kernel
theorem dX4_holds_41 : decode cX4_holds 41 = .ok (.getfield 21, 3) := by decide +kernel
theorem dX4_holds_44 : decode cX4_holds 44 = .ok (.invokestatic 56, 3) := by decide +kernel
theorem dX4_holds_47 : decode cX4_holds 47 = .ok (.i2l, 1) := by decide +kernel
theorem dX4_holds_48 : decode cX4_holds 48 = .ok (.aload_n 1, 1) := by decide +kernel
theorem dX4_holds_49 : decode cX4_holds 49 = .ok (.getfield 80, 3) := by decide +kernel
theorem dX4_holds_52 : decode cX4_holds 52 = .ok (.lmul, 1) := by decide +kernel
theorem dX4_holds_53 : decode cX4_holds 53 = .ok (.aload_n 1, 1) := by decide +kernel
theorem dX4_holds_54 : decode cX4_holds 54 = .ok (.getfield 83, 3) := by decide +kernel
theorem dX4_holds_57 : decode cX4_holds 57 = .ok (.lcmp, 1) := by decide +kernel
theorem dX4_holds_58 : decode cX4_holds 58 = .ok (.ifCond .gt 40, 3) := by decide +kernel
theorem dX4_holds_61 : decode cX4_holds 61 = .ok (.aload_n 1, 1) := by decide +kernel
theorem dX4_holds_62 : decode cX4_holds 62 = .ok (.getfield 83, 3) := by decide +kernel
theorem dX4_holds_65 : decode cX4_holds 65 = .ok (.aload_n 0, 1) := by decide +kernel
theorem dX4_holds_66 : decode cX4_holds 66 = .ok (.getfield 15, 3) := by decide +kernel
theorem dX4_holds_69 : decode cX4_holds 69 = .ok (.aload_n 0, 1) := by decide +kernel
theorem dX4_holds_70 : decode cX4_holds 70 = .ok (.getfield 21, 3) := by decide +kernel
theorem dX4_holds_73 : decode cX4_holds 73 = .ok (.invokestatic 61, 3) := by decide +kernel
theorem dX4_holds_76 : decode cX4_holds 76 = .ok (.i2l, 1) := by decide +kernel
theorem dX4_holds_77 : decode cX4_holds 77 = .ok (.aload_n 1, 1) := by decide +kernel
theorem dX4_holds_78 : decode cX4_holds 78 = .ok (.getfield 80, 3) := by decide +kernel
theorem dX4_holds_81 : decode cX4_holds 81 = .ok (.lmul, 1) := by decide +kernel
theorem dX4_holds_82 : decode cX4_holds 82 = .ok (.lcmp, 1) := by decide +kernel
theorem dX4_holds_83 : decode cX4_holds 83 = .ok (.ifCond .gt 15, 3) := by decide +kernel
theorem dX4_holds_86 : decode cX4_holds 86 = .ok (.aload_n 0, 1) := by decide +kernel
theorem dX4_holds_87 : decode cX4_holds 87 = .ok (.aload_n 1, 1) := by decide +kernel
theorem dX4_holds_88 : decode cX4_holds 88 = .ok (.invokevirtual 86, 3) := by decide +kernel
theorem dX4_holds_91 : decode cX4_holds 91 = .ok (.ifCond .ne 7, 3) := by decide +kernel
theorem dX4_holds_94 : decode cX4_holds 94 = .ok (.iconst 1, 1) := by decide +kernel
theorem dX4_holds_95 : decode cX4_holds 95 = .ok (.goto 4, 3) := by decide +kernel
theorem dX4_holds_98 : decode cX4_holds 98 = .ok (.iconst 0, 1) := by decide +kernel
theorem dX4_holds_99 : decode cX4_holds 99 = .ok (.ireturn, 1) := by decide +kernel
def f_X4_holds (F : Nat) (S : CS) (D : CD) (a0 : Nat) (a1 : Nat) : Option Int32 := ckK S a0 4 <| ckK S a1 2 <| (if 0 < (lg_cmp (((D.1 a0 0).toInt64) * (D.2.1 a1 1)) (D.2.1 a1 0)) then okB 0 (some 0) else (if 0 < (lg_cmp (D.2.1 a1 0) (((D.1 a0 2).toInt64) * (D.2.1 a1 1))) then okB 0 (some 0) else (if 0 < (lg_cmp (((if (D.1 a0 3) < (D.1 a0 1) then (D.1 a0 3) else (D.1 a0 1)).toInt64) * (D.2.1 a1 3)) (D.2.1 a1 2)) then okB 0 (some 0) else (if 0 < (lg_cmp (D.2.1 a1 2) (((if (D.1 a0 1) < (D.1 a0 3) then (D.1 a0 3) else (D.1 a0 1)).toInt64) * (D.2.1 a1 3))) then okB 0 (some 0) else cal (f_X4_compareHeight F S D a0 a1) fun t12 => (if t12 = 0 then okB 1 (some 1) else okB 0 (some 0))))))
set_option maxRecDepth 100000 in
set_option maxHeartbeats 4000000 in
theorem m_X4_holds (l : Launch) (G : cG) (F : Nat) (S : CS) (D : CD) (a0 : Nat) (a1 : Nat) (r : Int32) (h : f_X4_holds F S D a0 a1 = some r) : cMI l yX4_holds vX4_holds ({ frames := 2, cells := 0, slots := 0, locals := 44 }) G S [.ref a0, .ref a1] D D r := by
  refine cBodyI (cc := cX4_holds) (maxL := 2) (ret := (some .boolean)) (own := RX4) (by decide) rfl rfl ?_
  intro sz p e s m below meth c hC hP
  have hC0 := hC
  obtain ⟨hx, hb, -, hts, hown, -, hml, -, -, -⟩ := hC0
  have hS : va_S (cA G S sz) s.heap s.heap [] := va_S.rf
  have hin_X2 : ∀ w ∈ wsX20, w ∈ vX4_holds := fun w h => List.mem_cons_of_mem _ (hWC2 w h)
  have hin_X4 : ∀ w ∈ wsX40, w ∈ vX4_holds := fun w h => List.mem_cons_of_mem _ (hWC4 w h)
  have fl_X4_startX := hts _ (List.mem_cons_of_mem _ wc_33)
  have fl_X4_endX := hts _ (List.mem_cons_of_mem _ wc_37)
  have fl_X4_startY := hts _ (List.mem_cons_of_mem _ wc_34)
  have fl_X4_endY := hts _ (List.mem_cons_of_mem _ wc_38)
  refine m_entry (Nat.le_of_ble_eq_true rfl) (fun ls hl => ?_)
  have hl : lv_has ls 2 [(0, .ref a0), (1, .ref a1)] := hl
  unfold f_X4_holds at h
  refine lv_aload_n hx hb dX4_holds_0 rfl (lv_at hl 0 rfl) ?_
  obtain ⟨z1, h⟩ := ckK_el h
  refine c_get (C := RX4) (T := TX4) (N := 6) (ref := "SegmentMap$Segment") (ci := 5) (v := .int (D.1 a0 0)) hC hin_X4 hP z1.1 (cE_4 z1.2) rfl 0 (by decide) fl_X4_startX rfl rfl dX4_holds_1 ?_
  refine lv_i2l (v := (D.1 a0 0).toInt64) hx hb dX4_holds_4 rfl ?_
  refine lv_aload_n hx hb dX4_holds_5 rfl (lv_at hl 1 rfl) ?_
  obtain ⟨z2, h⟩ := ckK_el h
  refine c_getN (C := RX2) (T := TX2) (N := 4) (ref := "SegmentMap$Point") (ci := 3) (v := .long (D.2.1 a1 1)) hC hin_X2 hP z2.1 (cE_2 z2.2) rfl 1 (by decide) (nm := "xUnder") (ds := "J") (List.mem_of_getElem? (i := 22) rfl) rfl rfl dX4_holds_6 ?_
  refine lv_lmul hx hb dX4_holds_9 ?_
  refine lv_aload_n hx hb dX4_holds_10 rfl (lv_at hl 1 rfl) ?_
  refine c_getN (C := RX2) (T := TX2) (N := 4) (ref := "SegmentMap$Point") (ci := 3) (v := .long (D.2.1 a1 0)) hC hin_X2 hP z2.1 (cE_2 z2.2) rfl 0 (by decide) (nm := "xOver") (ds := "J") (List.mem_of_getElem? (i := 23) rfl) rfl rfl dX4_holds_11 ?_
  refine W.lcmp hx hb dX4_holds_14 ?_
  refine lv_if_gt (tgt := 98) hx hb dX4_holds_15 (by decide) (fun u3 => ?_) (fun u3 => ?_)
  · have h := ite_t u3 h
    refine lv_iconst (v := 0) hx hb dX4_holds_98 (by decide) ?_
    obtain ⟨z4, h⟩ := okB_el h
    cases h
    exact c_zret hC hP hS z4 rfl dX4_holds_99
  · have h := ite_f u3 h
    refine lv_aload_n hx hb dX4_holds_18 rfl (lv_at hl 1 rfl) ?_
    refine c_getN (C := RX2) (T := TX2) (N := 4) (ref := "SegmentMap$Point") (ci := 3) (v := .long (D.2.1 a1 0)) hC hin_X2 hP z2.1 (cE_2 z2.2) rfl 0 (by decide) (nm := "xOver") (ds := "J") (List.mem_of_getElem? (i := 23) rfl) rfl rfl dX4_holds_19 ?_
    refine lv_aload_n hx hb dX4_holds_22 rfl (lv_at hl 0 rfl) ?_
    refine c_get (C := RX4) (T := TX4) (N := 6) (ref := "SegmentMap$Segment") (ci := 5) (v := .int (D.1 a0 2)) hC hin_X4 hP z1.1 (cE_4 z1.2) rfl 2 (by decide) fl_X4_endX rfl rfl dX4_holds_23 ?_
    refine lv_i2l (v := (D.1 a0 2).toInt64) hx hb dX4_holds_26 rfl ?_
    refine lv_aload_n hx hb dX4_holds_27 rfl (lv_at hl 1 rfl) ?_
    refine c_getN (C := RX2) (T := TX2) (N := 4) (ref := "SegmentMap$Point") (ci := 3) (v := .long (D.2.1 a1 1)) hC hin_X2 hP z2.1 (cE_2 z2.2) rfl 1 (by decide) (nm := "xUnder") (ds := "J") (List.mem_of_getElem? (i := 22) rfl) rfl rfl dX4_holds_28 ?_
    refine lv_lmul hx hb dX4_holds_31 ?_
    refine W.lcmp hx hb dX4_holds_32 ?_
    refine lv_if_gt (tgt := 98) hx hb dX4_holds_33 (by decide) (fun u5 => ?_) (fun u5 => ?_)
    · have h := ite_t u5 h
      refine lv_iconst (v := 0) hx hb dX4_holds_98 (by decide) ?_
      obtain ⟨z6, h⟩ := okB_el h
      cases h
      exact c_zret hC hP hS z6 rfl dX4_holds_99
    · have h := ite_f u5 h
      refine lv_aload_n hx hb dX4_holds_36 rfl (lv_at hl 0 rfl) ?_
      refine c_get (C := RX4) (T := TX4) (N := 6) (ref := "SegmentMap$Segment") (ci := 5) (v := .int (D.1 a0 1)) hC hin_X4 hP z1.1 (cE_4 z1.2) rfl 1 (by decide) fl_X4_startY rfl rfl dX4_holds_37 ?_
      refine lv_aload_n hx hb dX4_holds_40 rfl (lv_at hl 0 rfl) ?_
      refine c_get (C := RX4) (T := TX4) (N := 6) (ref := "SegmentMap$Segment") (ci := 5) (v := .int (D.1 a0 3)) hC hin_X4 hP z1.1 (cE_4 z1.2) rfl 3 (by decide) fl_X4_endY rfl rfl dX4_holds_41 ?_
      refine va_mmin (own := RX4) hx hb (hml.trans hl.1.symm) hown (hts _ (List.mem_cons_of_mem _ wc_39)) (hts _ (List.mem_cons_of_mem _ wc_40)) (hts _ (List.mem_cons_of_mem _ wc_41)) (hts _ (List.mem_cons_of_mem _ wc_42)) (Nat.le_of_ble_eq_true rfl) (Nat.le_of_ble_eq_true rfl) (Nat.zero_le _) (Nat.zero_le _) dX4_holds_44 ?_
      refine lv_i2l (v := (if (D.1 a0 3) < (D.1 a0 1) then (D.1 a0 3) else (D.1 a0 1)).toInt64) hx hb dX4_holds_47 rfl ?_
      refine lv_aload_n hx hb dX4_holds_48 rfl (lv_at hl 1 rfl) ?_
      refine c_getN (C := RX2) (T := TX2) (N := 4) (ref := "SegmentMap$Point") (ci := 3) (v := .long (D.2.1 a1 3)) hC hin_X2 hP z2.1 (cE_2 z2.2) rfl 3 (by decide) (nm := "yUnder") (ds := "J") (List.mem_of_getElem? (i := 24) rfl) rfl rfl dX4_holds_49 ?_
      refine lv_lmul hx hb dX4_holds_52 ?_
      refine lv_aload_n hx hb dX4_holds_53 rfl (lv_at hl 1 rfl) ?_
      refine c_getN (C := RX2) (T := TX2) (N := 4) (ref := "SegmentMap$Point") (ci := 3) (v := .long (D.2.1 a1 2)) hC hin_X2 hP z2.1 (cE_2 z2.2) rfl 2 (by decide) (nm := "yOver") (ds := "J") (List.mem_of_getElem? (i := 25) rfl) rfl rfl dX4_holds_54 ?_
      refine W.lcmp hx hb dX4_holds_57 ?_
      refine lv_if_gt (tgt := 98) hx hb dX4_holds_58 (by decide) (fun u7 => ?_) (fun u7 => ?_)
      · have h := ite_t u7 h
        refine lv_iconst (v := 0) hx hb dX4_holds_98 (by decide) ?_
        obtain ⟨z8, h⟩ := okB_el h
        cases h
        exact c_zret hC hP hS z8 rfl dX4_holds_99
      · have h := ite_f u7 h
        refine lv_aload_n hx hb dX4_holds_61 rfl (lv_at hl 1 rfl) ?_
        refine c_getN (C := RX2) (T := TX2) (N := 4) (ref := "SegmentMap$Point") (ci := 3) (v := .long (D.2.1 a1 2)) hC hin_X2 hP z2.1 (cE_2 z2.2) rfl 2 (by decide) (nm := "yOver") (ds := "J") (List.mem_of_getElem? (i := 25) rfl) rfl rfl dX4_holds_62 ?_
        refine lv_aload_n hx hb dX4_holds_65 rfl (lv_at hl 0 rfl) ?_
        refine c_get (C := RX4) (T := TX4) (N := 6) (ref := "SegmentMap$Segment") (ci := 5) (v := .int (D.1 a0 1)) hC hin_X4 hP z1.1 (cE_4 z1.2) rfl 1 (by decide) fl_X4_startY rfl rfl dX4_holds_66 ?_
        refine lv_aload_n hx hb dX4_holds_69 rfl (lv_at hl 0 rfl) ?_
        refine c_get (C := RX4) (T := TX4) (N := 6) (ref := "SegmentMap$Segment") (ci := 5) (v := .int (D.1 a0 3)) hC hin_X4 hP z1.1 (cE_4 z1.2) rfl 3 (by decide) fl_X4_endY rfl rfl dX4_holds_70 ?_
        refine va_mmax (own := RX4) hx hb (hml.trans hl.1.symm) hown (hts _ (List.mem_cons_of_mem _ wc_43)) (hts _ (List.mem_cons_of_mem _ wc_44)) (hts _ (List.mem_cons_of_mem _ wc_41)) (hts _ (List.mem_cons_of_mem _ wc_45)) (Nat.le_of_ble_eq_true rfl) (Nat.le_of_ble_eq_true rfl) (Nat.zero_le _) (Nat.zero_le _) dX4_holds_73 ?_
        refine lv_i2l (v := (if (D.1 a0 1) < (D.1 a0 3) then (D.1 a0 3) else (D.1 a0 1)).toInt64) hx hb dX4_holds_76 rfl ?_
        refine lv_aload_n hx hb dX4_holds_77 rfl (lv_at hl 1 rfl) ?_
        refine c_getN (C := RX2) (T := TX2) (N := 4) (ref := "SegmentMap$Point") (ci := 3) (v := .long (D.2.1 a1 3)) hC hin_X2 hP z2.1 (cE_2 z2.2) rfl 3 (by decide) (nm := "yUnder") (ds := "J") (List.mem_of_getElem? (i := 24) rfl) rfl rfl dX4_holds_78 ?_
        refine lv_lmul hx hb dX4_holds_81 ?_
        refine W.lcmp hx hb dX4_holds_82 ?_
        refine lv_if_gt (tgt := 98) hx hb dX4_holds_83 (by decide) (fun u9 => ?_) (fun u9 => ?_)
        · have h := ite_t u9 h
          refine lv_iconst (v := 0) hx hb dX4_holds_98 (by decide) ?_
          obtain ⟨z10, h⟩ := okB_el h
          cases h
          exact c_zret hC hP hS z10 rfl dX4_holds_99
        · have h := ite_f u9 h
          refine lv_aload_n hx hb dX4_holds_86 rfl (lv_at hl 0 rfl) ?_
          refine lv_aload_n hx hb dX4_holds_87 rfl (lv_at hl 1 rfl) ?_
          obtain ⟨t12, e11, h⟩ := cal_el h
          refine c_VI (As := [.ref a1]) (rest := []) hC hP hS z1.1 (cE_4 z1.2) (C := RX4) (T := TX4) (N := 6) rfl (m_X4_compareHeight l G F S D a0 a1 t12 e11) (cwV 1 hts (gWC wc_142 wc_143 wc_144 wc_48 wc_134) rfl rfl rfl (by decide +kernel) ⟨Nat.le_of_ble_eq_true rfl, Nat.le_of_ble_eq_true rfl⟩) rfl hl.1 rfl (Nat.le_of_ble_eq_true rfl) dX4_holds_88 (fun H locs hP hS => ?_)
          refine lv_if_ne (tgt := 98) hx hb dX4_holds_91 (by decide) (fun u13 => ?_) (fun u13 => ?_)
          · have h := ite_f u13 h
            refine lv_iconst (v := 0) hx hb dX4_holds_98 (by decide) ?_
            obtain ⟨z14, h⟩ := okB_el h
            cases h
            exact c_zret hC hP hS z14 rfl dX4_holds_99
          · have h := ite_t u13 h
            refine lv_iconst (v := 1) hx hb dX4_holds_94 (by decide) ?_
            refine lv_goto (tgt := 99) hx hb dX4_holds_95 (by decide) ?_
            obtain ⟨z15, h⟩ := okB_el h
            cases h
            exact c_zret hC hP hS z15 rfl dX4_holds_99

theorem dX2_compareX_0 : decode cX2_compareX 0 = .ok (.aload_n 0, 1) := by decide +kernel
theorem dX2_compareX_1 : decode cX2_compareX 1 = .ok (.getfield 9, 3) := by decide +kernel
theorem dX2_compareX_4 : decode cX2_compareX 4 = .ok (.aload_n 1, 1) := by decide +kernel
theorem dX2_compareX_5 : decode cX2_compareX 5 = .ok (.getfield 15, 3) := by decide +kernel
theorem dX2_compareX_8 : decode cX2_compareX 8 = .ok (.lmul, 1) := by decide +kernel
theorem dX2_compareX_9 : decode cX2_compareX 9 = .ok (.aload_n 1, 1) := by decide +kernel
theorem dX2_compareX_10 : decode cX2_compareX 10 = .ok (.getfield 9, 3) := by decide +kernel
theorem dX2_compareX_13 : decode cX2_compareX 13 = .ok (.aload_n 0, 1) := by decide +kernel
theorem dX2_compareX_14 : decode cX2_compareX 14 = .ok (.getfield 15, 3) := by decide +kernel
theorem dX2_compareX_17 : decode cX2_compareX 17 = .ok (.lmul, 1) := by decide +kernel
theorem dX2_compareX_18 : decode cX2_compareX 18 = .ok (.invokestatic 30, 3) := by decide +kernel
theorem dX2_compareX_21 : decode cX2_compareX 21 = .ok (.ireturn, 1) := by decide +kernel
def f_X2_compareX (F : Nat) (S : CS) (D : CD) (a0 : Nat) (a1 : Nat) : Option Int32 := ckK S a0 2 <| ckK S a1 2 <| cal (f_J13_compare_74951 F S D ((D.2.1 a0 0) * (D.2.1 a1 1)) ((D.2.1 a1 0) * (D.2.1 a0 1))) fun t4 => some t4
set_option maxRecDepth 100000 in
set_option maxHeartbeats 4000000 in
theorem m_X2_compareX (l : Launch) (G : cG) (F : Nat) (S : CS) (D : CD) (a0 : Nat) (a1 : Nat) (r : Int32) (h : f_X2_compareX F S D a0 a1 = some r) : cMI l yX2_compareX vX2_compareX ({ frames := 1, cells := 0, slots := 0, locals := 23 }) G S [.ref a0, .ref a1] D D r := by
  refine cBodyI (cc := cX2_compareX) (maxL := 2) (ret := (some .int)) (own := RX2) (by decide) rfl rfl ?_
  intro sz p e s m below meth c hC hP
  have hC0 := hC
  obtain ⟨hx, hb, -, hts, hown, -, hml, -, -, -⟩ := hC0
  have hS : va_S (cA G S sz) s.heap s.heap [] := va_S.rf
  have hin_X2 : ∀ w ∈ wsX20, w ∈ vX2_compareX := fun w h => List.mem_cons_of_mem _ (hWC2 w h)
  have fl_X2_xOver := hts _ (List.mem_cons_of_mem _ wc_125)
  have fl_X2_xUnder := hts _ (List.mem_cons_of_mem _ wc_126)
  refine m_entry (Nat.le_of_ble_eq_true rfl) (fun ls hl => ?_)
  have hl : lv_has ls 2 [(0, .ref a0), (1, .ref a1)] := hl
  unfold f_X2_compareX at h
  refine lv_aload_n hx hb dX2_compareX_0 rfl (lv_at hl 0 rfl) ?_
  obtain ⟨z1, h⟩ := ckK_el h
  refine c_get (C := RX2) (T := TX2) (N := 4) (ref := "SegmentMap$Point") (ci := 3) (v := .long (D.2.1 a0 0)) hC hin_X2 hP z1.1 (cE_2 z1.2) rfl 0 (by decide) fl_X2_xOver rfl rfl dX2_compareX_1 ?_
  refine lv_aload_n hx hb dX2_compareX_4 rfl (lv_at hl 1 rfl) ?_
  obtain ⟨z2, h⟩ := ckK_el h
  refine c_get (C := RX2) (T := TX2) (N := 4) (ref := "SegmentMap$Point") (ci := 3) (v := .long (D.2.1 a1 1)) hC hin_X2 hP z2.1 (cE_2 z2.2) rfl 1 (by decide) fl_X2_xUnder rfl rfl dX2_compareX_5 ?_
  refine lv_lmul hx hb dX2_compareX_8 ?_
  refine lv_aload_n hx hb dX2_compareX_9 rfl (lv_at hl 1 rfl) ?_
  refine c_get (C := RX2) (T := TX2) (N := 4) (ref := "SegmentMap$Point") (ci := 3) (v := .long (D.2.1 a1 0)) hC hin_X2 hP z2.1 (cE_2 z2.2) rfl 0 (by decide) fl_X2_xOver rfl rfl dX2_compareX_10 ?_
  refine lv_aload_n hx hb dX2_compareX_13 rfl (lv_at hl 0 rfl) ?_
  refine c_get (C := RX2) (T := TX2) (N := 4) (ref := "SegmentMap$Point") (ci := 3) (v := .long (D.2.1 a0 1)) hC hin_X2 hP z1.1 (cE_2 z1.2) rfl 1 (by decide) fl_X2_xUnder rfl rfl dX2_compareX_14 ?_
  refine lv_lmul hx hb dX2_compareX_17 ?_
  obtain ⟨t4, e3, h⟩ := cal_el h
  refine c_SI (As := [.long ((D.2.1 a0 0) * (D.2.1 a1 1)), .long ((D.2.1 a1 0) * (D.2.1 a0 1))]) (rest := []) hC hP hS (m_J13_compare_74951 l G F S D ((D.2.1 a0 0) * (D.2.1 a1 1)) ((D.2.1 a1 0) * (D.2.1 a0 1)) t4 e3) (va_cwS 2 hts (gWCS wc_146 wc_139 wc_140 wc_133) rfl rfl rfl (by decide +kernel) ⟨Nat.le_of_ble_eq_true rfl, Nat.le_of_ble_eq_true rfl⟩) rfl hl.1 rfl (Nat.le_of_ble_eq_true rfl) dX2_compareX_18 (fun H locs hP hS => ?_)
  cases h
  exact c_iret hC hP hS rfl dX2_compareX_21

theorem dX6_isUnder_0 : decode cX6_isUnder 0 = .ok (.aload_n 0, 1) := by decide +kernel
theorem dX6_isUnder_1 : decode cX6_isUnder 1 = .ok (.getfield 28, 3) := by decide +kernel
theorem dX6_isUnder_4 : decode cX6_isUnder 4 = .ok (.aload_n 0, 1) := by decide +kernel
theorem dX6_isUnder_5 : decode cX6_isUnder 5 = .ok (.getfield 35, 3) := by decide +kernel
theorem dX6_isUnder_8 : decode cX6_isUnder 8 = .ok (.getfield 150, 3) := by decide +kernel
theorem dX6_isUnder_11 : decode cX6_isUnder 11 = .ok (.iload_n 1, 1) := by decide +kernel
theorem dX6_isUnder_12 : decode cX6_isUnder 12 = .ok (.invokevirtual 140, 3) := by decide +kernel
theorem dX6_isUnder_15 : decode cX6_isUnder 15 = .ok (.invokevirtual 120, 3) := by decide +kernel
theorem dX6_isUnder_18 : decode cX6_isUnder 18 = .ok (.aload_n 2, 1) := by decide +kernel
theorem dX6_isUnder_19 : decode cX6_isUnder 19 = .ok (.invokevirtual 326, 3) := by decide +kernel
theorem dX6_isUnder_22 : decode cX6_isUnder 22 = .ok (.ifCond .ge 54, 3) := by decide +kernel
theorem dX6_isUnder_25 : decode cX6_isUnder 25 = .ok (.aload_n 0, 1) := by decide +kernel
theorem dX6_isUnder_26 : decode cX6_isUnder 26 = .ok (.getfield 28, 3) := by decide +kernel
theorem dX6_isUnder_29 : decode cX6_isUnder 29 = .ok (.aload_n 0, 1) := by decide +kernel
theorem dX6_isUnder_30 : decode cX6_isUnder 30 = .ok (.getfield 35, 3) := by decide +kernel
theorem dX6_isUnder_33 : decode cX6_isUnder 33 = .ok (.getfield 153, 3) := by decide +kernel
theorem dX6_isUnder_36 : decode cX6_isUnder 36 = .ok (.iload_n 1, 1) := by decide +kernel
theorem dX6_isUnder_37 : decode cX6_isUnder 37 = .ok (.invokevirtual 140, 3) := by decide +kernel
theorem dX6_isUnder_40 : decode cX6_isUnder 40 = .ok (.invokevirtual 120, 3) := by decide +kernel
theorem dX6_isUnder_43 : decode cX6_isUnder 43 = .ok (.aload_n 2, 1) := by decide +kernel
theorem dX6_isUnder_44 : decode cX6_isUnder 44 = .ok (.invokevirtual 326, 3) := by decide +kernel
theorem dX6_isUnder_47 : decode cX6_isUnder 47 = .ok (.ifCond .lt 29, 3) := by decide +kernel
theorem dX6_isUnder_50 : decode cX6_isUnder 50 = .ok (.aload_n 0, 1) := by decide +kernel
theorem dX6_isUnder_51 : decode cX6_isUnder 51 = .ok (.aload_n 0, 1) := by decide +kernel
theorem dX6_isUnder_52 : decode cX6_isUnder 52 = .ok (.getfield 35, 3) := by decide +kernel
theorem dX6_isUnder_55 : decode cX6_isUnder 55 = .ok (.getfield 147, 3) := by decide +kernel
theorem dX6_isUnder_58 : decode cX6_isUnder 58 = .ok (.iload_n 1, 1) := by decide +kernel
theorem dX6_isUnder_59 : decode cX6_isUnder 59 = .ok (.invokevirtual 140, 3) := by decide +kernel
theorem dX6_isUnder_62 : decode cX6_isUnder 62 = .ok (.invokevirtual 101, 3) := by decide +kernel
theorem dX6_isUnder_65 : decode cX6_isUnder 65 = .ok (.aload_n 2, 1) := by decide +kernel
theorem dX6_isUnder_66 : decode cX6_isUnder 66 = .ok (.invokevirtual 329, 3) := by decide +kernel
theorem dX6_isUnder_69 : decode cX6_isUnder 69 = .ok (.ifCond .ge 7, 3) := by decide +kernel
theorem dX6_isUnder_72 : decode cX6_isUnder 72 = .ok (.iconst 1, 1) := by decide +kernel
theorem dX6_isUnder_73 : decode cX6_isUnder 73 = .ok (.goto 4, 3) := by decide +kernel
theorem dX6_isUnder_76 : decode cX6_isUnder 76 = .ok (.iconst 0, 1) := by decide +kernel
theorem dX6_isUnder_77 : decode cX6_isUnder 77 = .ok (.ireturn, 1) := by decide +kernel
def f_X6_isUnder (F : Nat) (S : CS) (D : CD) (a0 : Nat) (a1 : Int32) (a2 : Nat) : Option Int32 := ckK S a0 6 <| cal (S.2.2.1 a0 2) fun p2 => cal (S.2.2.1 a0 3) fun p4 => ckK S p4 0 <| cal (S.2.2.1 p4 1) fun p7 => ckK S p7 3 <| cal (f_X3_get F S D p7 a1) fun t11 => ckK S p2 5 <| cal (f_X5_at F S D p2 t11) fun t14 => ckK S t14 2 <| cal (f_X2_compareX F S D t14 a2) fun t17 => (if 0 ≤ t17 then okB 0 (some 0) else cal (S.2.2.1 a0 2) fun p20 => cal (S.2.2.1 a0 3) fun p22 => ckK S p22 0 <| cal (S.2.2.1 p22 2) fun p25 => ckK S p25 3 <| cal (f_X3_get F S D p25 a1) fun t29 => ckK S p20 5 <| cal (f_X5_at F S D p20 t29) fun t32 => ckK S t32 2 <| cal (f_X2_compareX F S D t32 a2) fun t35 => (if t35 < 0 then okB 0 (some 0) else cal (S.2.2.1 a0 3) fun p38 => ckK S p38 0 <| cal (S.2.2.1 p38 0) fun p41 => ckK S p41 3 <| cal (f_X3_get F S D p41 a1) fun t45 => cal (f_X6_lineAt F S D a0 t45) fun t47 => ckK S t47 4 <| cal (f_X4_compareHeight F S D t47 a2) fun t50 => (if 0 ≤ t50 then okB 0 (some 0) else okB 1 (some 1))))
set_option maxRecDepth 100000 in
set_option maxHeartbeats 4000000 in
theorem m_X6_isUnder (l : Launch) (G : cG) (F : Nat) (S : CS) (D : CD) (a0 : Nat) (a1 : Int32) (a2 : Nat) (r : Int32) (h : f_X6_isUnder F S D a0 a1 a2 = some r) : cMI l yX6_isUnder vX6_isUnder ({ frames := 4, cells := 0, slots := 0, locals := 85 }) G S [.ref a0, .int a1, .ref a2] D D r := by
  refine cBodyI (cc := cX6_isUnder) (maxL := 3) (ret := (some .boolean)) (own := RX6) (by decide) rfl rfl ?_
  intro sz p e s m below meth c hC hP
  have hC0 := hC
  obtain ⟨hx, hb, -, hts, hown, -, hml, -, -, -⟩ := hC0
  have hS : va_S (cA G S sz) s.heap s.heap [] := va_S.rf
  have hin_X0 : ∀ w ∈ wsX00, w ∈ vX6_isUnder := fun w h => List.mem_cons_of_mem _ (hWC0 w h)
  have hin_X6 : ∀ w ∈ wsX60, w ∈ vX6_isUnder := fun w h => List.mem_cons_of_mem _ (hWC6 w h)
  have fl_X6_corners := hts _ (List.mem_cons_of_mem _ wc_74)
  have fl_X6_pieces := hts _ (List.mem_cons_of_mem _ wc_76)
  refine m_entry (Nat.le_of_ble_eq_true rfl) (fun ls hl => ?_)
  have hl : lv_has ls 3 [(0, .ref a0), (1, .int a1), (2, .ref a2)] := hl
  unfold f_X6_isUnder at h
  refine lv_aload_n hx hb dX6_isUnder_0 rfl (lv_at hl 0 rfl) ?_
  obtain ⟨z1, h⟩ := ckK_el h
  obtain ⟨p2, e3, h⟩ := cal_el h
  refine c_get (C := RX6) (T := TX6) (N := 8) (ref := "SegmentMap") (ci := 7) (v := .ref p2) hC hin_X6 hP z1.1 (cE_6 z1.2) rfl 2 (by decide) fl_X6_corners rfl (by show some (va_rf (S.2.2.1 a0 2)) = _; rw [e3]; rfl) dX6_isUnder_1 ?_
  refine lv_aload_n hx hb dX6_isUnder_4 rfl (lv_at hl 0 rfl) ?_
  obtain ⟨p4, e5, h⟩ := cal_el h
  refine c_get (C := RX6) (T := TX6) (N := 8) (ref := "SegmentMap") (ci := 7) (v := .ref p4) hC hin_X6 hP z1.1 (cE_6 z1.2) rfl 3 (by decide) fl_X6_pieces rfl (by show some (va_rf (S.2.2.1 a0 3)) = _; rw [e5]; rfl) dX6_isUnder_5 ?_
  obtain ⟨z6, h⟩ := ckK_el h
  obtain ⟨p7, e8, h⟩ := cal_el h
  refine c_getN (C := RX0) (T := TX0) (N := 6) (ref := "SegmentMap$Edges") (ci := 1) (v := .ref p7) hC hin_X0 hP z6.1 (cE_0 z6.2) rfl 1 (by decide) (nm := "start") (ds := "LSegmentMap$Row;") (List.mem_of_getElem? (i := 9) rfl) rfl (by show some (va_rf (S.2.2.1 p4 1)) = _; rw [e8]; rfl) dX6_isUnder_8 ?_
  refine lv_iload_n hx hb dX6_isUnder_11 rfl (lv_at hl 1 rfl) ?_
  obtain ⟨z9, h⟩ := ckK_el h
  obtain ⟨t11, e10, h⟩ := cal_el h
  refine c_VI (As := [.int a1]) (rest := [.ref p2]) hC hP hS z9.1 (cE_3 z9.2) (C := RX3) (T := TX3) (N := 1) rfl (m_X3_get l G F S D p7 a1 t11 e10) (cwV 1 hts (gWC wc_99 wc_100 wc_101 wc_102 wc_96) rfl rfl rfl (by decide +kernel) ⟨Nat.le_of_ble_eq_true rfl, Nat.le_of_ble_eq_true rfl⟩) rfl hl.1 rfl (Nat.le_of_ble_eq_true rfl) dX6_isUnder_12 (fun H locs hP hS => ?_)
  obtain ⟨z12, h⟩ := ckK_el h
  obtain ⟨t14, e13, h⟩ := cal_el h
  refine c_VA (As := [.int t11]) (rest := []) hC hP hS z12.1 (cE_5 z12.2) (C := RX5) (T := TX5) (N := 7) rfl (m_X5_at l G F S D p2 t11 t14 e13) (cwV 1 hts (gWC wc_89 wc_90 wc_91 wc_92 wc_82) rfl rfl rfl (by decide +kernel) ⟨Nat.le_of_ble_eq_true rfl, Nat.le_of_ble_eq_true rfl⟩) rfl hl.1 rfl (Nat.le_of_ble_eq_true rfl) dX6_isUnder_15 (fun H locs hP hS => ?_)
  refine lv_aload_n hx hb dX6_isUnder_18 rfl (lv_at hl 2 rfl) ?_
  obtain ⟨z15, h⟩ := ckK_el h
  obtain ⟨t17, e16, h⟩ := cal_el h
  refine c_VI (As := [.ref a2]) (rest := []) hC hP hS z15.1 (cE_2 z15.2) (C := RX2) (T := TX2) (N := 4) rfl (m_X2_compareX l G F S D t14 a2 t17 e16) (cwV 1 hts (gWC wc_148 wc_149 wc_150 wc_131 wc_145) rfl rfl rfl (by decide +kernel) ⟨Nat.le_of_ble_eq_true rfl, Nat.le_of_ble_eq_true rfl⟩) rfl hl.1 rfl (Nat.le_of_ble_eq_true rfl) dX6_isUnder_19 (fun H locs hP hS => ?_)
  refine lv_if_ge (tgt := 76) hx hb dX6_isUnder_22 (by decide) (fun u18 => ?_) (fun u18 => ?_)
  · have h := ite_t u18 h
    refine lv_iconst (v := 0) hx hb dX6_isUnder_76 (by decide) ?_
    obtain ⟨z19, h⟩ := okB_el h
    cases h
    exact c_zret hC hP hS z19 rfl dX6_isUnder_77
  · have h := ite_f u18 h
    refine lv_aload_n hx hb dX6_isUnder_25 rfl (lv_at hl 0 rfl) ?_
    obtain ⟨p20, e21, h⟩ := cal_el h
    refine c_get (C := RX6) (T := TX6) (N := 8) (ref := "SegmentMap") (ci := 7) (v := .ref p20) hC hin_X6 hP z1.1 (cE_6 z1.2) rfl 2 (by decide) fl_X6_corners rfl (by show some (va_rf (S.2.2.1 a0 2)) = _; rw [e21]; rfl) dX6_isUnder_26 ?_
    refine lv_aload_n hx hb dX6_isUnder_29 rfl (lv_at hl 0 rfl) ?_
    obtain ⟨p22, e23, h⟩ := cal_el h
    refine c_get (C := RX6) (T := TX6) (N := 8) (ref := "SegmentMap") (ci := 7) (v := .ref p22) hC hin_X6 hP z1.1 (cE_6 z1.2) rfl 3 (by decide) fl_X6_pieces rfl (by show some (va_rf (S.2.2.1 a0 3)) = _; rw [e23]; rfl) dX6_isUnder_30 ?_
    obtain ⟨z24, h⟩ := ckK_el h
    obtain ⟨p25, e26, h⟩ := cal_el h
    refine c_getN (C := RX0) (T := TX0) (N := 6) (ref := "SegmentMap$Edges") (ci := 1) (v := .ref p25) hC hin_X0 hP z24.1 (cE_0 z24.2) rfl 2 (by decide) (nm := "end") (ds := "LSegmentMap$Row;") (List.mem_of_getElem? (i := 10) rfl) rfl (by show some (va_rf (S.2.2.1 p22 2)) = _; rw [e26]; rfl) dX6_isUnder_33 ?_
    refine lv_iload_n hx hb dX6_isUnder_36 rfl (lv_at hl 1 rfl) ?_
    obtain ⟨z27, h⟩ := ckK_el h
    obtain ⟨t29, e28, h⟩ := cal_el h
    refine c_VI (As := [.int a1]) (rest := [.ref p20]) hC hP hS z27.1 (cE_3 z27.2) (C := RX3) (T := TX3) (N := 1) rfl (m_X3_get l G F S D p25 a1 t29 e28) (cwV 1 hts (gWC wc_99 wc_100 wc_101 wc_102 wc_96) rfl rfl rfl (by decide +kernel) ⟨Nat.le_of_ble_eq_true rfl, Nat.le_of_ble_eq_true rfl⟩) rfl hl.1 rfl (Nat.le_of_ble_eq_true rfl) dX6_isUnder_37 (fun H locs hP hS => ?_)
    obtain ⟨z30, h⟩ := ckK_el h
    obtain ⟨t32, e31, h⟩ := cal_el h
    refine c_VA (As := [.int t29]) (rest := []) hC hP hS z30.1 (cE_5 z30.2) (C := RX5) (T := TX5) (N := 7) rfl (m_X5_at l G F S D p20 t29 t32 e31) (cwV 1 hts (gWC wc_89 wc_90 wc_91 wc_92 wc_82) rfl rfl rfl (by decide +kernel) ⟨Nat.le_of_ble_eq_true rfl, Nat.le_of_ble_eq_true rfl⟩) rfl hl.1 rfl (Nat.le_of_ble_eq_true rfl) dX6_isUnder_40 (fun H locs hP hS => ?_)
    refine lv_aload_n hx hb dX6_isUnder_43 rfl (lv_at hl 2 rfl) ?_
    obtain ⟨z33, h⟩ := ckK_el h
    obtain ⟨t35, e34, h⟩ := cal_el h
    refine c_VI (As := [.ref a2]) (rest := []) hC hP hS z33.1 (cE_2 z33.2) (C := RX2) (T := TX2) (N := 4) rfl (m_X2_compareX l G F S D t32 a2 t35 e34) (cwV 1 hts (gWC wc_148 wc_149 wc_150 wc_131 wc_145) rfl rfl rfl (by decide +kernel) ⟨Nat.le_of_ble_eq_true rfl, Nat.le_of_ble_eq_true rfl⟩) rfl hl.1 rfl (Nat.le_of_ble_eq_true rfl) dX6_isUnder_44 (fun H locs hP hS => ?_)
    refine lv_if_lt (tgt := 76) hx hb dX6_isUnder_47 (by decide) (fun u36 => ?_) (fun u36 => ?_)
    · have h := ite_t u36 h
      refine lv_iconst (v := 0) hx hb dX6_isUnder_76 (by decide) ?_
      obtain ⟨z37, h⟩ := okB_el h
      cases h
      exact c_zret hC hP hS z37 rfl dX6_isUnder_77
    · have h := ite_f u36 h
      refine lv_aload_n hx hb dX6_isUnder_50 rfl (lv_at hl 0 rfl) ?_
      refine lv_aload_n hx hb dX6_isUnder_51 rfl (lv_at hl 0 rfl) ?_
      obtain ⟨p38, e39, h⟩ := cal_el h
      refine c_get (C := RX6) (T := TX6) (N := 8) (ref := "SegmentMap") (ci := 7) (v := .ref p38) hC hin_X6 hP z1.1 (cE_6 z1.2) rfl 3 (by decide) fl_X6_pieces rfl (by show some (va_rf (S.2.2.1 a0 3)) = _; rw [e39]; rfl) dX6_isUnder_52 ?_
      obtain ⟨z40, h⟩ := ckK_el h
      obtain ⟨p41, e42, h⟩ := cal_el h
      refine c_getN (C := RX0) (T := TX0) (N := 6) (ref := "SegmentMap$Edges") (ci := 1) (v := .ref p41) hC hin_X0 hP z40.1 (cE_0 z40.2) rfl 0 (by decide) (nm := "line") (ds := "LSegmentMap$Row;") (List.mem_of_getElem? (i := 8) rfl) rfl (by show some (va_rf (S.2.2.1 p38 0)) = _; rw [e42]; rfl) dX6_isUnder_55 ?_
      refine lv_iload_n hx hb dX6_isUnder_58 rfl (lv_at hl 1 rfl) ?_
      obtain ⟨z43, h⟩ := ckK_el h
      obtain ⟨t45, e44, h⟩ := cal_el h
      refine c_VI (As := [.int a1]) (rest := [.ref a0]) hC hP hS z43.1 (cE_3 z43.2) (C := RX3) (T := TX3) (N := 1) rfl (m_X3_get l G F S D p41 a1 t45 e44) (cwV 1 hts (gWC wc_99 wc_100 wc_101 wc_102 wc_96) rfl rfl rfl (by decide +kernel) ⟨Nat.le_of_ble_eq_true rfl, Nat.le_of_ble_eq_true rfl⟩) rfl hl.1 rfl (Nat.le_of_ble_eq_true rfl) dX6_isUnder_59 (fun H locs hP hS => ?_)
      obtain ⟨t47, e46, h⟩ := cal_el h
      refine c_VA (As := [.int t45]) (rest := []) hC hP hS z1.1 (cE_6 z1.2) (C := RX6) (T := TX6) (N := 8) rfl (m_X6_lineAt l G F S D a0 t45 t47 e46) (cwV 1 hts (gWC wc_67 wc_68 wc_69 wc_66 wc_23) rfl rfl rfl (by decide +kernel) ⟨Nat.le_of_ble_eq_true rfl, Nat.le_of_ble_eq_true rfl⟩) rfl hl.1 rfl (Nat.le_of_ble_eq_true rfl) dX6_isUnder_62 (fun H locs hP hS => ?_)
      refine lv_aload_n hx hb dX6_isUnder_65 rfl (lv_at hl 2 rfl) ?_
      obtain ⟨z48, h⟩ := ckK_el h
      obtain ⟨t50, e49, h⟩ := cal_el h
      refine c_VI (As := [.ref a2]) (rest := []) hC hP hS z48.1 (cE_4 z48.2) (C := RX4) (T := TX4) (N := 6) rfl (m_X4_compareHeight l G F S D t47 a2 t50 e49) (cwV 1 hts (gWC wc_151 wc_143 wc_144 wc_48 wc_134) rfl rfl rfl (by decide +kernel) ⟨Nat.le_of_ble_eq_true rfl, Nat.le_of_ble_eq_true rfl⟩) rfl hl.1 rfl (Nat.le_of_ble_eq_true rfl) dX6_isUnder_66 (fun H locs hP hS => ?_)
      refine lv_if_ge (tgt := 76) hx hb dX6_isUnder_69 (by decide) (fun u51 => ?_) (fun u51 => ?_)
      · have h := ite_t u51 h
        refine lv_iconst (v := 0) hx hb dX6_isUnder_76 (by decide) ?_
        obtain ⟨z52, h⟩ := okB_el h
        cases h
        exact c_zret hC hP hS z52 rfl dX6_isUnder_77
      · have h := ite_f u51 h
        refine lv_iconst (v := 1) hx hb dX6_isUnder_72 (by decide) ?_
        refine lv_goto (tgt := 77) hx hb dX6_isUnder_73 (by decide) ?_
        obtain ⟨z53, h⟩ := okB_el h
        cases h
        exact c_zret hC hP hS z53 rfl dX6_isUnder_77

theorem dX4_compareHeights_0 : decode cX4_compareHeights 0 = .ok (.aload_n 0, 1) := by decide +kernel
theorem dX4_compareHeights_1 : decode cX4_compareHeights 1 = .ok (.aload_n 2, 1) := by decide +kernel
theorem dX4_compareHeights_2 : decode cX4_compareHeights 2 = .ok (.invokevirtual 76, 3) := by decide +kernel
theorem dX4_compareHeights_5 : decode cX4_compareHeights 5 = .ok (.aload_n 1, 1) := by decide +kernel
theorem dX4_compareHeights_6 : decode cX4_compareHeights 6 = .ok (.getfield 24, 3) := by decide +kernel
theorem dX4_compareHeights_9 : decode cX4_compareHeights 9 = .ok (.lmul, 1) := by decide +kernel
theorem dX4_compareHeights_10 : decode cX4_compareHeights 10 = .ok (.aload_n 1, 1) := by decide +kernel
theorem dX4_compareHeights_11 : decode cX4_compareHeights 11 = .ok (.aload_n 2, 1) := by decide +kernel
theorem dX4_compareHeights_12 : decode cX4_compareHeights 12 = .ok (.invokevirtual 76, 3) := by decide +kernel
theorem dX4_compareHeights_15 : decode cX4_compareHeights 15 = .ok (.aload_n 0, 1) := by decide +kernel
theorem dX4_compareHeights_16 : decode cX4_compareHeights 16 = .ok (.getfield 24, 3) := by decide +kernel
theorem dX4_compareHeights_19 : decode cX4_compareHeights 19 = .ok (.lmul, 1) := by decide +kernel
theorem dX4_compareHeights_20 : decode cX4_compareHeights 20 = .ok (.invokestatic 35, 3) := by decide +kernel
theorem dX4_compareHeights_23 : decode cX4_compareHeights 23 = .ok (.ireturn, 1) := by decide +kernel
def f_X4_compareHeights (F : Nat) (S : CS) (D : CD) (a0 : Nat) (a1 : Nat) (a2 : Nat) : Option Int32 := ckK S a0 4 <| cal (f_X4_height F S D a0 a2) fun t3 => ckK S a1 4 <| cal (f_X4_height F S D a1 a2) fun t6 => cal (f_J13_compare_74951 F S D (t3 * (D.2.1 a1 4)) (t6 * (D.2.1 a0 4))) fun t8 => some t8
set_option maxRecDepth 100000 in
set_option maxHeartbeats 4000000 in
theorem m_X4_compareHeights (l : Launch) (G : cG) (F : Nat) (S : CS) (D : CD) (a0 : Nat) (a1 : Nat) (a2 : Nat) (r : Int32) (h : f_X4_compareHeights F S D a0 a1 a2 = some r) : cMI l yX4_compareHeights vX4_compareHeights ({ frames := 1, cells := 0, slots := 0, locals := 23 }) G S [.ref a0, .ref a1, .ref a2] D D r := by
  refine cBodyI (cc := cX4_compareHeights) (maxL := 3) (ret := (some .int)) (own := RX4) (by decide) rfl rfl ?_
  intro sz p e s m below meth c hC hP
  have hC0 := hC
  obtain ⟨hx, hb, -, hts, hown, -, hml, -, -, -⟩ := hC0
  have hS : va_S (cA G S sz) s.heap s.heap [] := va_S.rf
  have hin_X4 : ∀ w ∈ wsX40, w ∈ vX4_compareHeights := fun w h => List.mem_cons_of_mem _ (hWC4 w h)
  have fl_X4_run := hts _ (List.mem_cons_of_mem _ wc_30)
  refine m_entry (Nat.le_of_ble_eq_true rfl) (fun ls hl => ?_)
  have hl : lv_has ls 3 [(0, .ref a0), (1, .ref a1), (2, .ref a2)] := hl
  unfold f_X4_compareHeights at h
  refine lv_aload_n hx hb dX4_compareHeights_0 rfl (lv_at hl 0 rfl) ?_
  refine lv_aload_n hx hb dX4_compareHeights_1 rfl (lv_at hl 2 rfl) ?_
  obtain ⟨z1, h⟩ := ckK_el h
  obtain ⟨t3, e2, h⟩ := cal_el h
  refine c_VL (As := [.ref a2]) (rest := []) hC hP hS z1.1 (cE_4 z1.2) (C := RX4) (T := TX4) (N := 6) rfl (m_X4_height l G F S D a0 a2 t3 e2) (cwV 1 hts (gWC wc_135 wc_136 wc_137 wc_48 wc_132) rfl rfl rfl (by decide +kernel) ⟨Nat.le_of_ble_eq_true rfl, Nat.le_of_ble_eq_true rfl⟩) rfl hl.1 rfl (Nat.le_of_ble_eq_true rfl) dX4_compareHeights_2 (fun H locs hP hS => ?_)
  refine lv_aload_n hx hb dX4_compareHeights_5 rfl (lv_at hl 1 rfl) ?_
  obtain ⟨z4, h⟩ := ckK_el h
  refine c_get (C := RX4) (T := TX4) (N := 6) (ref := "SegmentMap$Segment") (ci := 5) (v := .long (D.2.1 a1 4)) hC hin_X4 hP z4.1 (cE_4 z4.2) rfl 4 (by decide) fl_X4_run rfl rfl dX4_compareHeights_6 ?_
  refine lv_lmul hx hb dX4_compareHeights_9 ?_
  refine lv_aload_n hx hb dX4_compareHeights_10 rfl (lv_at hl 1 rfl) ?_
  refine lv_aload_n hx hb dX4_compareHeights_11 rfl (lv_at hl 2 rfl) ?_
  obtain ⟨t6, e5, h⟩ := cal_el h
  refine c_VL (As := [.ref a2]) (rest := [.long (t3 * (D.2.1 a1 4))]) hC hP hS z4.1 (cE_4 z4.2) (C := RX4) (T := TX4) (N := 6) rfl (m_X4_height l G F S D a1 a2 t6 e5) (cwV 1 hts (gWC wc_135 wc_136 wc_137 wc_48 wc_132) rfl rfl rfl (by decide +kernel) ⟨Nat.le_of_ble_eq_true rfl, Nat.le_of_ble_eq_true rfl⟩) rfl hl.1 rfl (Nat.le_of_ble_eq_true rfl) dX4_compareHeights_12 (fun H locs hP hS => ?_)
  refine lv_aload_n hx hb dX4_compareHeights_15 rfl (lv_at hl 0 rfl) ?_
  refine c_get (C := RX4) (T := TX4) (N := 6) (ref := "SegmentMap$Segment") (ci := 5) (v := .long (D.2.1 a0 4)) hC hin_X4 hP z1.1 (cE_4 z1.2) rfl 4 (by decide) fl_X4_run rfl rfl dX4_compareHeights_16 ?_
  refine lv_lmul hx hb dX4_compareHeights_19 ?_
  obtain ⟨t8, e7, h⟩ := cal_el h
  refine c_SI (As := [.long (t3 * (D.2.1 a1 4)), .long (t6 * (D.2.1 a0 4))]) (rest := []) hC hP hS (m_J13_compare_74951 l G F S D (t3 * (D.2.1 a1 4)) (t6 * (D.2.1 a0 4)) t8 e7) (va_cwS 2 hts (gWCS wc_138 wc_139 wc_140 wc_133) rfl rfl rfl (by decide +kernel) ⟨Nat.le_of_ble_eq_true rfl, Nat.le_of_ble_eq_true rfl⟩) rfl hl.1 rfl (Nat.le_of_ble_eq_true rfl) dX4_compareHeights_20 (fun H locs hP hS => ?_)
  cases h
  exact c_iret hC hP hS rfl dX4_compareHeights_23

theorem dX4_compareSlopes_0 : decode cX4_compareSlopes 0 = .ok (.lconst 0, 1) := by decide +kernel
theorem dX4_compareSlopes_1 : decode cX4_compareSlopes 1 = .ok (.aload_n 0, 1) := by decide +kernel
theorem dX4_compareSlopes_2 : decode cX4_compareSlopes 2 = .ok (.aload_n 1, 1) := by decide +kernel
theorem dX4_compareSlopes_3 : decode cX4_compareSlopes 3 = .ok (.invokevirtual 31, 3) := by decide +kernel
theorem dX4_compareSlopes_6 : decode cX4_compareSlopes 6 = .ok (.invokestatic 35, 3) := by decide +kernel
theorem dX4_compareSlopes_9 : decode cX4_compareSlopes 9 = .ok (.ireturn, 1) := by decide +kernel
def f_X4_compareSlopes (F : Nat) (S : CS) (D : CD) (a0 : Nat) (a1 : Nat) : Option Int32 := ckK S a0 4 <| cal (f_X4_turn F S D a0 a1) fun t3 => cal (f_J13_compare_74951 F S D 0 t3) fun t5 => some t5
set_option maxRecDepth 100000 in
set_option maxHeartbeats 4000000 in
theorem m_X4_compareSlopes (l : Launch) (G : cG) (F : Nat) (S : CS) (D : CD) (a0 : Nat) (a1 : Nat) (r : Int32) (h : f_X4_compareSlopes F S D a0 a1 = some r) : cMI l yX4_compareSlopes vX4_compareSlopes ({ frames := 1, cells := 0, slots := 0, locals := 23 }) G S [.ref a0, .ref a1] D D r := by
  refine cBodyI (cc := cX4_compareSlopes) (maxL := 2) (ret := (some .int)) (own := RX4) (by decide) rfl rfl ?_
  intro sz p e s m below meth c hC hP
  have hC0 := hC
  obtain ⟨hx, hb, -, hts, hown, -, hml, -, -, -⟩ := hC0
  have hS : va_S (cA G S sz) s.heap s.heap [] := va_S.rf
  refine m_entry (Nat.le_of_ble_eq_true rfl) (fun ls hl => ?_)
  have hl : lv_has ls 2 [(0, .ref a0), (1, .ref a1)] := hl
  unfold f_X4_compareSlopes at h
  refine lv_lconst (v := 0) hx hb dX4_compareSlopes_0 (by decide) ?_
  refine lv_aload_n hx hb dX4_compareSlopes_1 rfl (lv_at hl 0 rfl) ?_
  refine lv_aload_n hx hb dX4_compareSlopes_2 rfl (lv_at hl 1 rfl) ?_
  obtain ⟨z1, h⟩ := ckK_el h
  obtain ⟨t3, e2, h⟩ := cal_el h
  refine c_VL (As := [.ref a1]) (rest := [.long 0]) hC hP hS z1.1 (cE_4 z1.2) (C := RX4) (T := TX4) (N := 6) rfl (m_X4_turn l G F S D a0 a1 t3 e2) (cwV 1 hts (gWC wc_51 wc_52 wc_53 wc_48 wc_29) rfl rfl rfl (by decide +kernel) ⟨Nat.le_of_ble_eq_true rfl, Nat.le_of_ble_eq_true rfl⟩) rfl hl.1 rfl (Nat.le_of_ble_eq_true rfl) dX4_compareSlopes_3 (fun H locs hP hS => ?_)
  obtain ⟨t5, e4, h⟩ := cal_el h
  refine c_SI (As := [.long 0, .long t3]) (rest := []) hC hP hS (m_J13_compare_74951 l G F S D 0 t3 t5 e4) (va_cwS 2 hts (gWCS wc_138 wc_139 wc_140 wc_133) rfl rfl rfl (by decide +kernel) ⟨Nat.le_of_ble_eq_true rfl, Nat.le_of_ble_eq_true rfl⟩) rfl hl.1 rfl (Nat.le_of_ble_eq_true rfl) dX4_compareSlopes_6 (fun H locs hP hS => ?_)
  cases h
  exact c_iret hC hP hS rfl dX4_compareSlopes_9

theorem dX6_isHigher_0 : decode cX6_isHigher 0 = .ok (.aload_n 0, 1) := by decide +kernel
theorem dX6_isHigher_1 : decode cX6_isHigher 1 = .ok (.aload_n 0, 1) := by decide +kernel
theorem dX6_isHigher_2 : decode cX6_isHigher 2 = .ok (.getfield 35, 3) := by decide +kernel
theorem dX6_isHigher_5 : decode cX6_isHigher 5 = .ok (.getfield 147, 3) := by decide +kernel
theorem dX6_isHigher_8 : decode cX6_isHigher 8 = .ok (.iload_n 1, 1) := by decide +kernel
theorem dX6_isHigher_9 : decode cX6_isHigher 9 = .ok (.invokevirtual 140, 3) := by decide +kernel
theorem dX6_isHigher_12 : decode cX6_isHigher 12 = .ok (.invokevirtual 101, 3) := by decide +kernel
theorem dX6_isHigher_15 : decode cX6_isHigher 15 = .ok (.astore 4, 2) := by decide +kernel
theorem dX6_isHigher_17 : decode cX6_isHigher 17 = .ok (.aload_n 0, 1) := by decide +kernel
theorem dX6_isHigher_18 : decode cX6_isHigher 18 = .ok (.aload_n 0, 1) := by decide +kernel
theorem dX6_isHigher_19 : decode cX6_isHigher 19 = .ok (.getfield 35, 3) := by decide +kernel
theorem dX6_isHigher_22 : decode cX6_isHigher 22 = .ok (.getfield 147, 3) := by decide +kernel
theorem dX6_isHigher_25 : decode cX6_isHigher 25 = .ok (.iload_n 2, 1) := by decide +kernel
theorem dX6_isHigher_26 : decode cX6_isHigher 26 = .ok (.invokevirtual 140, 3) := by decide +kernel
theorem dX6_isHigher_29 : decode cX6_isHigher 29 = .ok (.invokevirtual 101, 3) := by decide +kernel
theorem dX6_isHigher_32 : decode cX6_isHigher 32 = .ok (.astore 5, 2) := by decide +kernel
theorem dX6_isHigher_34 : decode cX6_isHigher 34 = .ok (.aload 4, 2) := by decide +kernel
theorem dX6_isHigher_36 : decode cX6_isHigher 36 = .ok (.aload 5, 2) := by decide +kernel
theorem dX6_isHigher_38 : decode cX6_isHigher 38 = .ok (.aload_n 3, 1) := by decide +kernel
theorem dX6_isHigher_39 : decode cX6_isHigher 39 = .ok (.invokevirtual 199, 3) := by decide +kernel
theorem dX6_isHigher_42 : decode cX6_isHigher 42 = .ok (.istore 6, 2) := by decide +kernel
theorem dX6_isHigher_44 : decode cX6_isHigher 44 = .ok (.iload 6, 2) := by decide +kernel
theorem dX6_isHigher_46 : decode cX6_isHigher 46 = .ok (.ifCond .gt 18, 3) := by decide +kernel
theorem dX6_isHigher_49 : decode cX6_isHigher 49 = .ok (.iload 6, 2) := by decide +kernel
theorem dX6_isHigher_51 : decode cX6_isHigher 51 = .ok (.ifCond .ne 17, 3) := by decide +kernel
theorem dX6_isHigher_54 : decode cX6_isHigher 54 = .ok (.aload 4, 2) := by decide +kernel
theorem dX6_isHigher_56 : decode cX6_isHigher 56 = .ok (.aload 5, 2) := by decide +kernel
theorem dX6_isHigher_58 : decode cX6_isHigher 58 = .ok (.invokevirtual 203, 3) := by decide +kernel
theorem dX6_isHigher_61 : decode cX6_isHigher 61 = .ok (.ifCond .ge 7, 3) := by decide +kernel
theorem dX6_isHigher_64 : decode cX6_isHigher 64 = .ok (.iconst 1, 1) := by decide +kernel
theorem dX6_isHigher_65 : decode cX6_isHigher 65 = .ok (.goto 4, 3) := by decide +kernel
theorem dX6_isHigher_68 : decode cX6_isHigher 68 = .ok (.iconst 0, 1) := by decide +kernel
theorem dX6_isHigher_69 : decode cX6_isHigher 69 = .ok (.ireturn, 1) := by decide +kernel
def f_X6_isHigher (F : Nat) (S : CS) (D : CD) (a0 : Nat) (a1 : Int32) (a2 : Int32) (a3 : Nat) : Option Int32 := ckK S a0 6 <| cal (S.2.2.1 a0 3) fun p2 => ckK S p2 0 <| cal (S.2.2.1 p2 0) fun p5 => ckK S p5 3 <| cal (f_X3_get F S D p5 a1) fun t9 => cal (f_X6_lineAt F S D a0 t9) fun t11 => cal (S.2.2.1 a0 3) fun p12 => ckK S p12 0 <| cal (S.2.2.1 p12 0) fun p15 => ckK S p15 3 <| cal (f_X3_get F S D p15 a2) fun t19 => cal (f_X6_lineAt F S D a0 t19) fun t21 => ckK S t11 4 <| cal (f_X4_compareHeights F S D t11 t21 a3) fun t24 => (if 0 < t24 then okB 1 (some 1) else (if t24 = 0 then cal (f_X4_compareSlopes F S D t11 t21) fun t30 => (if 0 ≤ t30 then okB 0 (some 0) else okB 1 (some 1)) else okB 0 (some 0)))
set_option maxRecDepth 100000 in
set_option maxHeartbeats 4000000 in
theorem m_X6_isHigher (l : Launch) (G : cG) (F : Nat) (S : CS) (D : CD) (a0 : Nat) (a1 : Int32) (a2 : Int32) (a3 : Nat) (r : Int32) (h : f_X6_isHigher F S D a0 a1 a2 a3 = some r) : cMI l yX6_isHigher vX6_isHigher ({ frames := 4, cells := 0, slots := 0, locals := 85 }) G S [.ref a0, .int a1, .int a2, .ref a3] D D r := by
  refine cBodyI (cc := cX6_isHigher) (maxL := 7) (ret := (some .boolean)) (own := RX6) (by decide) rfl rfl ?_
  intro sz p e s m below meth c hC hP
  have hC0 := hC
  obtain ⟨hx, hb, -, hts, hown, -, hml, -, -, -⟩ := hC0
  have hS : va_S (cA G S sz) s.heap s.heap [] := va_S.rf
  have hin_X0 : ∀ w ∈ wsX00, w ∈ vX6_isHigher := fun w h => List.mem_cons_of_mem _ (hWC0 w h)
  have hin_X6 : ∀ w ∈ wsX60, w ∈ vX6_isHigher := fun w h => List.mem_cons_of_mem _ (hWC6 w h)
  have fl_X6_pieces := hts _ (List.mem_cons_of_mem _ wc_76)
  refine m_entry (Nat.le_of_ble_eq_true rfl) (fun ls hl => ?_)
  have hl : lv_has ls 7 [(0, .ref a0), (1, .int a1), (2, .int a2), (3, .ref a3)] := hl
  unfold f_X6_isHigher at h
  refine lv_aload_n hx hb dX6_isHigher_0 rfl (lv_at hl 0 rfl) ?_
  refine lv_aload_n hx hb dX6_isHigher_1 rfl (lv_at hl 0 rfl) ?_
  obtain ⟨z1, h⟩ := ckK_el h
  obtain ⟨p2, e3, h⟩ := cal_el h
  refine c_get (C := RX6) (T := TX6) (N := 8) (ref := "SegmentMap") (ci := 7) (v := .ref p2) hC hin_X6 hP z1.1 (cE_6 z1.2) rfl 3 (by decide) fl_X6_pieces rfl (by show some (va_rf (S.2.2.1 a0 3)) = _; rw [e3]; rfl) dX6_isHigher_2 ?_
  obtain ⟨z4, h⟩ := ckK_el h
  obtain ⟨p5, e6, h⟩ := cal_el h
  refine c_getN (C := RX0) (T := TX0) (N := 6) (ref := "SegmentMap$Edges") (ci := 1) (v := .ref p5) hC hin_X0 hP z4.1 (cE_0 z4.2) rfl 0 (by decide) (nm := "line") (ds := "LSegmentMap$Row;") (List.mem_of_getElem? (i := 8) rfl) rfl (by show some (va_rf (S.2.2.1 p2 0)) = _; rw [e6]; rfl) dX6_isHigher_5 ?_
  refine lv_iload_n hx hb dX6_isHigher_8 rfl (lv_at hl 1 rfl) ?_
  obtain ⟨z7, h⟩ := ckK_el h
  obtain ⟨t9, e8, h⟩ := cal_el h
  refine c_VI (As := [.int a1]) (rest := [.ref a0]) hC hP hS z7.1 (cE_3 z7.2) (C := RX3) (T := TX3) (N := 1) rfl (m_X3_get l G F S D p5 a1 t9 e8) (cwV 1 hts (gWC wc_99 wc_100 wc_101 wc_102 wc_96) rfl rfl rfl (by decide +kernel) ⟨Nat.le_of_ble_eq_true rfl, Nat.le_of_ble_eq_true rfl⟩) rfl hl.1 rfl (Nat.le_of_ble_eq_true rfl) dX6_isHigher_9 (fun H locs hP hS => ?_)
  obtain ⟨t11, e10, h⟩ := cal_el h
  refine c_VA (As := [.int t9]) (rest := []) hC hP hS z1.1 (cE_6 z1.2) (C := RX6) (T := TX6) (N := 8) rfl (m_X6_lineAt l G F S D a0 t9 t11 e10) (cwV 1 hts (gWC wc_67 wc_68 wc_69 wc_66 wc_23) rfl rfl rfl (by decide +kernel) ⟨Nat.le_of_ble_eq_true rfl, Nat.le_of_ble_eq_true rfl⟩) rfl hl.1 rfl (Nat.le_of_ble_eq_true rfl) dX6_isHigher_12 (fun H locs hP hS => ?_)
  refine lv_astore (lv' := [(4, .ref t11), (0, .ref a0), (1, .int a1), (2, .int a2), (3, .ref a3)]) hx hb dX6_isHigher_15 hl (by decide) rfl (fun ls hl => ?_)
  refine lv_aload_n hx hb dX6_isHigher_17 rfl (lv_at hl 1 rfl) ?_
  refine lv_aload_n hx hb dX6_isHigher_18 rfl (lv_at hl 1 rfl) ?_
  obtain ⟨p12, e13, h⟩ := cal_el h
  refine c_get (C := RX6) (T := TX6) (N := 8) (ref := "SegmentMap") (ci := 7) (v := .ref p12) hC hin_X6 hP z1.1 (cE_6 z1.2) rfl 3 (by decide) fl_X6_pieces rfl (by show some (va_rf (S.2.2.1 a0 3)) = _; rw [e13]; rfl) dX6_isHigher_19 ?_
  obtain ⟨z14, h⟩ := ckK_el h
  obtain ⟨p15, e16, h⟩ := cal_el h
  refine c_getN (C := RX0) (T := TX0) (N := 6) (ref := "SegmentMap$Edges") (ci := 1) (v := .ref p15) hC hin_X0 hP z14.1 (cE_0 z14.2) rfl 0 (by decide) (nm := "line") (ds := "LSegmentMap$Row;") (List.mem_of_getElem? (i := 8) rfl) rfl (by show some (va_rf (S.2.2.1 p12 0)) = _; rw [e16]; rfl) dX6_isHigher_22 ?_
  refine lv_iload_n hx hb dX6_isHigher_25 rfl (lv_at hl 3 rfl) ?_
  obtain ⟨z17, h⟩ := ckK_el h
  obtain ⟨t19, e18, h⟩ := cal_el h
  refine c_VI (As := [.int a2]) (rest := [.ref a0]) hC hP hS z17.1 (cE_3 z17.2) (C := RX3) (T := TX3) (N := 1) rfl (m_X3_get l G F S D p15 a2 t19 e18) (cwV 1 hts (gWC wc_99 wc_100 wc_101 wc_102 wc_96) rfl rfl rfl (by decide +kernel) ⟨Nat.le_of_ble_eq_true rfl, Nat.le_of_ble_eq_true rfl⟩) rfl hl.1 rfl (Nat.le_of_ble_eq_true rfl) dX6_isHigher_26 (fun H locs hP hS => ?_)
  obtain ⟨t21, e20, h⟩ := cal_el h
  refine c_VA (As := [.int t19]) (rest := []) hC hP hS z1.1 (cE_6 z1.2) (C := RX6) (T := TX6) (N := 8) rfl (m_X6_lineAt l G F S D a0 t19 t21 e20) (cwV 1 hts (gWC wc_67 wc_68 wc_69 wc_66 wc_23) rfl rfl rfl (by decide +kernel) ⟨Nat.le_of_ble_eq_true rfl, Nat.le_of_ble_eq_true rfl⟩) rfl hl.1 rfl (Nat.le_of_ble_eq_true rfl) dX6_isHigher_29 (fun H locs hP hS => ?_)
  refine lv_astore (lv' := [(5, .ref t21), (4, .ref t11), (0, .ref a0), (1, .int a1), (2, .int a2), (3, .ref a3)]) hx hb dX6_isHigher_32 hl (by decide) rfl (fun ls hl => ?_)
  refine lv_aload hx hb dX6_isHigher_34 (lv_at hl 1 rfl) ?_
  refine lv_aload hx hb dX6_isHigher_36 (lv_at hl 0 rfl) ?_
  refine lv_aload_n hx hb dX6_isHigher_38 rfl (lv_at hl 5 rfl) ?_
  obtain ⟨z22, h⟩ := ckK_el h
  obtain ⟨t24, e23, h⟩ := cal_el h
  refine c_VI (As := [.ref t21, .ref a3]) (rest := []) hC hP hS z22.1 (cE_4 z22.2) (C := RX4) (T := TX4) (N := 6) rfl (m_X4_compareHeights l G F S D t11 t21 a3 t24 e23) (cwV 2 hts (gWC wc_155 wc_156 wc_157 wc_48 wc_152) rfl rfl rfl (by decide +kernel) ⟨Nat.le_of_ble_eq_true rfl, Nat.le_of_ble_eq_true rfl⟩) rfl hl.1 rfl (Nat.le_of_ble_eq_true rfl) dX6_isHigher_39 (fun H locs hP hS => ?_)
  refine lv_istore (lv' := [(6, .int t24), (5, .ref t21), (4, .ref t11), (0, .ref a0), (1, .int a1), (2, .int a2), (3, .ref a3)]) hx hb dX6_isHigher_42 hl (by decide) rfl (fun ls hl => ?_)
  refine lv_iload hx hb dX6_isHigher_44 (lv_at hl 0 rfl) ?_
  refine lv_if_gt (tgt := 64) hx hb dX6_isHigher_46 (by decide) (fun u25 => ?_) (fun u25 => ?_)
  · have h := ite_t u25 h
    refine lv_iconst (v := 1) hx hb dX6_isHigher_64 (by decide) ?_
    refine lv_goto (tgt := 69) hx hb dX6_isHigher_65 (by decide) ?_
    obtain ⟨z26, h⟩ := okB_el h
    cases h
    exact c_zret hC hP hS z26 rfl dX6_isHigher_69
  · have h := ite_f u25 h
    refine lv_iload hx hb dX6_isHigher_49 (lv_at hl 0 rfl) ?_
    refine lv_if_ne (tgt := 68) hx hb dX6_isHigher_51 (by decide) (fun u27 => ?_) (fun u27 => ?_)
    · have h := ite_f u27 h
      refine lv_iconst (v := 0) hx hb dX6_isHigher_68 (by decide) ?_
      obtain ⟨z28, h⟩ := okB_el h
      cases h
      exact c_zret hC hP hS z28 rfl dX6_isHigher_69
    · have h := ite_t u27 h
      refine lv_aload hx hb dX6_isHigher_54 (lv_at hl 2 rfl) ?_
      refine lv_aload hx hb dX6_isHigher_56 (lv_at hl 1 rfl) ?_
      obtain ⟨t30, e29, h⟩ := cal_el h
      refine c_VI (As := [.ref t21]) (rest := []) hC hP hS z22.1 (cE_4 z22.2) (C := RX4) (T := TX4) (N := 6) rfl (m_X4_compareSlopes l G F S D t11 t21 t30 e29) (cwV 1 hts (gWC wc_158 wc_159 wc_160 wc_48 wc_153) rfl rfl rfl (by decide +kernel) ⟨Nat.le_of_ble_eq_true rfl, Nat.le_of_ble_eq_true rfl⟩) rfl hl.1 rfl (Nat.le_of_ble_eq_true rfl) dX6_isHigher_58 (fun H locs hP hS => ?_)
      refine lv_if_ge (tgt := 68) hx hb dX6_isHigher_61 (by decide) (fun u31 => ?_) (fun u31 => ?_)
      · have h := ite_t u31 h
        refine lv_iconst (v := 0) hx hb dX6_isHigher_68 (by decide) ?_
        obtain ⟨z32, h⟩ := okB_el h
        cases h
        exact c_zret hC hP hS z32 rfl dX6_isHigher_69
      · have h := ite_f u31 h
        refine lv_iconst (v := 1) hx hb dX6_isHigher_64 (by decide) ?_
        refine lv_goto (tgt := 69) hx hb dX6_isHigher_65 (by decide) ?_
        obtain ⟨z33, h⟩ := okB_el h
        cases h
        exact c_zret hC hP hS z33 rfl dX6_isHigher_69
