def thr {α β : Type} (f : Option α) (t : Option β) (g : α → Option β) : Option β := match f with
  | some r => g r
  | none => t
theorem thr_el {α β : Type} {f : Option α} {t : Option β} {g : α → Option β} {r : β} (h : thr f t g = some r) : (∃ x, f = some x ∧ g x = some r) ∨ t = some r := by
  cases f with
  | none => exact Or.inr h
  | some x => exact Or.inl ⟨x, rfl, h⟩
theorem dX6_crossingAt_0 : decode cX6_crossingAt 0 = .ok (.aload_n 0, 1) := by decide +kernel
theorem dX6_crossingAt_1 : decode cX6_crossingAt 1 = .ok (.iload_n 1, 1) := by decide +kernel
theorem dX6_crossingAt_2 : decode cX6_crossingAt 2 = .ok (.invokevirtual 65, 3) := by decide +kernel
theorem dX6_crossingAt_5 : decode cX6_crossingAt 5 = .ok (.iconst 0, 1) := by decide +kernel
theorem dX6_crossingAt_6 : decode cX6_crossingAt 6 = .ok (.istore_n 3, 1) := by decide +kernel
theorem dX6_crossingAt_7 : decode cX6_crossingAt 7 = .ok (.iload_n 3, 1) := by decide +kernel
theorem dX6_crossingAt_8 : decode cX6_crossingAt 8 = .ok (.aload_n 0, 1) := by decide +kernel
theorem dX6_crossingAt_9 : decode cX6_crossingAt 9 = .ok (.getfield 12, 3) := by decide +kernel
theorem dX6_crossingAt_12 : decode cX6_crossingAt 12 = .ok (.invokevirtual 75, 3) := by decide +kernel
theorem dX6_crossingAt_15 : decode cX6_crossingAt 15 = .ok (.if_icmp .ge 39, 3) := by decide +kernel
theorem dX6_crossingAt_18 : decode cX6_crossingAt 18 = .ok (.aload_n 0, 1) := by decide +kernel
theorem dX6_crossingAt_19 : decode cX6_crossingAt 19 = .ok (.getfield 12, 3) := by decide +kernel
theorem dX6_crossingAt_22 : decode cX6_crossingAt 22 = .ok (.iload_n 3, 1) := by decide +kernel
theorem dX6_crossingAt_23 : decode cX6_crossingAt 23 = .ok (.invokevirtual 172, 3) := by decide +kernel
theorem dX6_crossingAt_26 : decode cX6_crossingAt 26 = .ok (.checkcast 16, 3) := by decide +kernel
theorem dX6_crossingAt_29 : decode cX6_crossingAt 29 = .ok (.iload_n 1, 1) := by decide +kernel
theorem dX6_crossingAt_30 : decode cX6_crossingAt 30 = .ok (.invokevirtual 182, 3) := by decide +kernel
theorem dX6_crossingAt_33 : decode cX6_crossingAt 33 = .ok (.ifCond .eq 15, 3) := by decide +kernel
theorem dX6_crossingAt_36 : decode cX6_crossingAt 36 = .ok (.aload_n 0, 1) := by decide +kernel
theorem dX6_crossingAt_37 : decode cX6_crossingAt 37 = .ok (.iload_n 1, 1) := by decide +kernel
theorem dX6_crossingAt_38 : decode cX6_crossingAt 38 = .ok (.iload_n 3, 1) := by decide +kernel
theorem dX6_crossingAt_39 : decode cX6_crossingAt 39 = .ok (.invokevirtual 186, 3) := by decide +kernel
theorem dX6_crossingAt_42 : decode cX6_crossingAt 42 = .ok (.iload_n 2, 1) := by decide +kernel
theorem dX6_crossingAt_43 : decode cX6_crossingAt 43 = .ok (.if_icmp .ne 5, 3) := by decide +kernel
theorem dX6_crossingAt_46 : decode cX6_crossingAt 46 = .ok (.iload_n 3, 1) := by decide +kernel
theorem dX6_crossingAt_47 : decode cX6_crossingAt 47 = .ok (.ireturn, 1) := by decide +kernel
theorem dX6_crossingAt_48 : decode cX6_crossingAt 48 = .ok (.iinc 3 1, 3) := by decide +kernel
theorem dX6_crossingAt_51 : decode cX6_crossingAt 51 = .ok (.goto (-44), 3) := by decide +kernel
theorem dX6_crossingAt_54 : decode cX6_crossingAt 54 = .ok (.new 190, 3) := by decide +kernel
theorem dX6_crossingAt_57 : decode cX6_crossingAt 57 = .ok (.dup, 1) := by decide +kernel
theorem dX6_crossingAt_58 : decode cX6_crossingAt 58 = .ok (.ldc 192, 2) := by decide +kernel
theorem dX6_crossingAt_60 : decode cX6_crossingAt 60 = .ok (.invokespecial 194, 3) := by decide +kernel
theorem dX6_crossingAt_63 : decode cX6_crossingAt 63 = .ok (.athrow, 1) := by decide +kernel
def wX6_crossingAt : List Cond := Cond.code yX6_crossingAt cX6_crossingAt 4 (some .int) :: WA
def f_X6_crossingAt_b48 (F : Nat) (S : CS) (a0 : Nat) (k7 : CD → Int32 → Int32 → Int32 → Option (CD × Int32)) (D : CD) (x1 : Int32) (x2 : Int32) (x3 : Int32) : Option (CD × Int32) := k7 D x1 x2 (x3 + 1)
def f_X6_crossingAt_L7 (F : Nat) (S : CS) (a0 : Nat) : Nat → CD → Int32 → Int32 → Int32 → Option (CD × Int32)
  | 0, _, _, _, _ => none
  | n7 + 1, D, x1, x2, x3 => ckK S a0 6 <| cal (S.2.2.1 a0 0) fun p2 => ckK S p2 7 <| cal (f_Jx4a65c_size_8abf5 F S D p2) fun t6 => (if t6 ≤ x3 then none else cal (S.2.2.1 a0 0) fun p8 => ckK S p8 7 <| cal (f_Jx4a65c_get_915e3 F S D p8 x3) fun t12 => ckK S t12 4 <| cal (f_X4_spans F S D t12 x1) fun t15 => (if t15 = 0 then f_X6_crossingAt_b48 F S a0 ((f_X6_crossingAt_L7 F S a0 n7)) D x1 x2 x3 else caM (f_X6_placeAt F S D a0 x1 x3) fun D18 t19 => (if t19 = x2 then some (D18, x3) else f_X6_crossingAt_b48 F S a0 ((f_X6_crossingAt_L7 F S a0 n7)) D18 x1 x2 x3)))
def f_X6_crossingAt (F : Nat) (S : CS) (D : CD) (a0 : Nat) (a1 : Int32) (a2 : Int32) : Option (CD × Int32) := ckK S a0 6 <| cal (f_X6_checkCoordinate F S D a0 a1) fun _ => f_X6_crossingAt_L7 F S a0 F D a1 a2 0
set_option maxRecDepth 100000 in
set_option maxHeartbeats 4000000 in
theorem m_X6_crossingAt (l : Launch) (G : cG) (F : Nat) (S : CS) (D D2 : CD) (a0 : Nat) (a1 : Int32) (a2 : Int32) (r : Int32) (h : f_X6_crossingAt F S D a0 a1 a2 = some (D2, r)) : cMI l yX6_crossingAt wX6_crossingAt ({ frames := 6, cells := 0, slots := 0, locals := 136 }) G S [.ref a0, .int a1, .int a2] D D2 r := by
  refine cBodyI (cc := cX6_crossingAt) (maxL := 4) (ret := (some .int)) (own := RX6) (by decide) rfl rfl ?_
  intro sz p e s m below meth c hC hP
  skip
  have hC0 := hC
  obtain ⟨hx, hb, -, hts, hown, -, hml, -, -, -⟩ := hC0
  have hS : va_S (cA G S sz) s.heap s.heap [] := va_S.rf
  have hin_X6 : ∀ w ∈ wsX60, w ∈ wX6_crossingAt := fun w h => List.mem_cons_of_mem _ (hWCA _ (hWC6 w h))
  have fl_X6_lines := hts _ (List.mem_cons_of_mem _ (hWCA _ wc_3))
  have cl_X4 := hts _ (List.mem_cons_of_mem _ (hWCA _ wc_24))
  have L7 : ∀ (n7 : Nat) (H : Heap) (locs : List Loc) (ls : Array Slot) (D : CD) (x1 : Int32) (x2 : Int32) (x3 : Int32), va_P G.1 vwCl (cW G S D) H → va_S (cA G S sz) s.heap H locs → lv_has ls 4 [(0, .ref a0), (1, .int x1), (2, .int x2), (3, .int x3)] → f_X6_crossingAt_L7 F S a0 n7 D x1 x2 x3 = some (D2, r) → W p l e (headSpec wX6_crossingAt ({ frames := 6, cells := 0, slots := 0, locals := 136 })).room s m ([.ref a0, .int a1, .int a2] : List Value).toArray below meth c H locs 0 0 (cQI below G S D2 sz ([.ref a0, .int a1, .int a2] : List Value).toArray s r) (F0 m 7 ls []) := by
    intro n7
    induction n7 with
    | zero =>
      intro H locs ls D x1 x2 x3 hP hS hl h
      rw [f_X6_crossingAt_L7] at h; cases h
    | succ n7 ih7 =>
      have b48 : ∀ (H : Heap) (locs : List Loc) (ls : Array Slot) (D : CD) (x1 : Int32) (x2 : Int32) (x3 : Int32), va_P G.1 vwCl (cW G S D) H → va_S (cA G S sz) s.heap H locs → lv_has ls 4 [(0, .ref a0), (1, .int x1), (2, .int x2), (3, .int x3)] → f_X6_crossingAt_b48 F S a0 ((f_X6_crossingAt_L7 F S a0 n7)) D x1 x2 x3 = some (D2, r) → W p l e (headSpec wX6_crossingAt ({ frames := 6, cells := 0, slots := 0, locals := 136 })).room s m ([.ref a0, .int a1, .int a2] : List Value).toArray below meth c H locs 0 0 (cQI below G S D2 sz ([.ref a0, .int a1, .int a2] : List Value).toArray s r) (F0 m 48 ls []) := by
        intro H locs ls D x1 x2 x3 hP hS hl h
        unfold f_X6_crossingAt_b48 at h
        refine lv_iinc (v := x3 + 1) (lv' := [(3, .int (x3 + 1)), (0, .ref a0), (1, .int x1), (2, .int x2)]) hx hb dX6_crossingAt_48 hl (k := 3) rfl rfl (by decide) rfl (fun ls hl => ?_)
        refine lv_goto (tgt := 7) hx hb dX6_crossingAt_51 (by decide) ?_
        exact ih7 _ _ _ D x1 x2 (x3 + 1) hP hS (lv_sub hl [1, 2, 3, 0] rfl) h
      intro H locs ls D x1 x2 x3 hP hS hl h
      rw [f_X6_crossingAt_L7] at h
      refine lv_iload_n hx hb dX6_crossingAt_7 rfl (lv_at hl 3 rfl) ?_
      refine lv_aload_n hx hb dX6_crossingAt_8 rfl (lv_at hl 0 rfl) ?_
      obtain ⟨z1, h⟩ := ckK_el h
      obtain ⟨p2, e3, h⟩ := cal_el h
      refine c_get (C := RX6) (T := TX6) (N := 8) (ref := "SegmentMap") (ci := 7) (v := .ref p2) hC hin_X6 hP z1.1 (cE_6 z1.2) rfl 0 (by decide) fl_X6_lines rfl (by show some (va_rf (S.2.2.1 a0 0)) = _; rw [e3]; rfl) dX6_crossingAt_9 ?_
      obtain ⟨z4, h⟩ := ckK_el h
      obtain ⟨t6, e5, h⟩ := cal_el h
      refine c_VI (As := []) (rest := [.int x3]) hC hP hS z4.1 (cE_7 z4.2) (C := RJx4a65c) (T := TJx4a65c) (N := 3) rfl (m_Jx4a65c_size_8abf5 l G F S D p2 t6 e5) (cwV 0 hts (gVA (hWCA _ wc_4) (hWCA _ wc_5) (hWCA _ wc_6) (hWCA _ wc_7) (hWCA _ wc_0) hWCA) rfl rfl rfl (by decide +kernel) ⟨Nat.le_of_ble_eq_true rfl, Nat.le_of_ble_eq_true rfl⟩) rfl hl.1 rfl (Nat.le_of_ble_eq_true rfl) dX6_crossingAt_12 (fun H locs hP hS => ?_)
      refine lv_icmp_ge (tgt := 54) hx hb dX6_crossingAt_15 (by decide) (fun u7 => ?_) (fun u7 => ?_)
      · have h := ite_t u7 h
        cases h
      · have h := ite_f u7 h
        refine lv_aload_n hx hb dX6_crossingAt_18 rfl (lv_at hl 0 rfl) ?_
        obtain ⟨p8, e9, h⟩ := cal_el h
        refine c_get (C := RX6) (T := TX6) (N := 8) (ref := "SegmentMap") (ci := 7) (v := .ref p8) hC hin_X6 hP z1.1 (cE_6 z1.2) rfl 0 (by decide) fl_X6_lines rfl (by show some (va_rf (S.2.2.1 a0 0)) = _; rw [e9]; rfl) dX6_crossingAt_19 ?_
        refine lv_iload_n hx hb dX6_crossingAt_22 rfl (lv_at hl 3 rfl) ?_
        obtain ⟨z10, h⟩ := ckK_el h
        obtain ⟨t12, e11, h⟩ := cal_el h
        refine c_VA (As := [.int x3]) (rest := []) hC hP hS z10.1 (cE_7 z10.2) (C := RJx4a65c) (T := TJx4a65c) (N := 3) rfl (m_Jx4a65c_get_915e3 l G F S D p8 x3 t12 e11) (cwV 1 hts (gVA (hWCA _ wc_26) (hWCA _ wc_27) (hWCA _ wc_28) (hWCA _ wc_7) (hWCA _ wc_16) hWCA) rfl rfl rfl (by decide +kernel) ⟨Nat.le_of_ble_eq_true rfl, Nat.le_of_ble_eq_true rfl⟩) rfl hl.1 rfl (Nat.le_of_ble_eq_true rfl) dX6_crossingAt_23 (fun H locs hP hS => ?_)
        obtain ⟨z13, h⟩ := ckK_el h
        refine c_cast (C := RX4) (T := TX4) (N := 6) (ci := 5) hC hP z13.1 (cE_4 z13.2) rfl cl_X4 dX6_crossingAt_26 ?_
        refine lv_iload_n hx hb dX6_crossingAt_29 rfl (lv_at hl 1 rfl) ?_
        obtain ⟨t15, e14, h⟩ := cal_el h
        refine c_VI (As := [.int x1]) (rest := []) hC hP hS z13.1 (cE_4 z13.2) (C := RX4) (T := TX4) (N := 6) rfl (m_X4_spans l G F S D t12 x1 t15 e14) (cwV 1 hts (gVA (hWCA _ wc_184) (hWCA _ wc_185) (hWCA _ wc_186) (hWCA _ wc_48) (hWCA _ wc_182) hWCA) rfl rfl rfl (by decide +kernel) ⟨Nat.le_of_ble_eq_true rfl, Nat.le_of_ble_eq_true rfl⟩) rfl hl.1 rfl (Nat.le_of_ble_eq_true rfl) dX6_crossingAt_30 (fun H locs hP hS => ?_)
        refine lv_if_eq (tgt := 48) hx hb dX6_crossingAt_33 (by decide) (fun u16 => ?_) (fun u16 => ?_)
        · have h := ite_t u16 h
          exact b48 _ _ _ D x1 x2 x3 hP hS (lv_sub hl [0, 1, 2, 3] rfl) h
        · have h := ite_f u16 h
          refine lv_aload_n hx hb dX6_crossingAt_36 rfl (lv_at hl 0 rfl) ?_
          refine lv_iload_n hx hb dX6_crossingAt_37 rfl (lv_at hl 1 rfl) ?_
          refine lv_iload_n hx hb dX6_crossingAt_38 rfl (lv_at hl 3 rfl) ?_
          obtain ⟨D18, t19, e17, h⟩ := caM_el h
          refine c_VI (As := [.int x1, .int x3]) (rest := []) hC hP hS z1.1 (cE_6 z1.2) (C := RX6) (T := TX6) (N := 8) rfl (m_X6_placeAt l G F S D D18 a0 x1 x3 t19 e17) (cwV 2 hts (gVA wa_135 wa_136 wa_137 (hWCA _ wc_66) (hWCA _ wc_188) hWCA) rfl rfl rfl (by decide +kernel) ⟨Nat.le_of_ble_eq_true rfl, Nat.le_of_ble_eq_true rfl⟩) rfl hl.1 rfl (Nat.le_of_ble_eq_true rfl) dX6_crossingAt_39 (fun H locs hP hS => ?_)
          refine lv_iload_n hx hb dX6_crossingAt_42 rfl (lv_at hl 2 rfl) ?_
          refine lv_icmp_ne (tgt := 48) hx hb dX6_crossingAt_43 (by decide) (fun u20 => ?_) (fun u20 => ?_)
          · have h := ite_f u20 h
            exact b48 _ _ _ D18 x1 x2 x3 hP hS (lv_sub hl [0, 1, 2, 3] rfl) h
          · have h := ite_t u20 h
            refine lv_iload_n hx hb dX6_crossingAt_46 rfl (lv_at hl 3 rfl) ?_
            cases h
            exact c_iret hC hP hS rfl dX6_crossingAt_47
  refine m_entry (Nat.le_of_ble_eq_true rfl) (fun ls hl => ?_)
  have hl : lv_has ls 4 [(0, .ref a0), (1, .int a1), (2, .int a2)] := hl
  unfold f_X6_crossingAt at h
  refine lv_aload_n hx hb dX6_crossingAt_0 rfl (lv_at hl 0 rfl) ?_
  refine lv_iload_n hx hb dX6_crossingAt_1 rfl (lv_at hl 1 rfl) ?_
  obtain ⟨z1, h⟩ := ckK_el h
  obtain ⟨_, e2, h⟩ := cal_el h
  refine c_VV (As := [.int a1]) (rest := []) hC hP hS z1.1 (cE_6 z1.2) (C := RX6) (T := TX6) (N := 8) rfl (m_X6_checkCoordinate l G F S D a0 a1 e2) (cwV 1 hts (gVA (hWCA _ wc_170) (hWCA _ wc_171) (hWCA _ wc_172) (hWCA _ wc_66) (hWCA _ wc_118) hWCA) rfl rfl rfl (by decide +kernel) ⟨Nat.le_of_ble_eq_true rfl, Nat.le_of_ble_eq_true rfl⟩) rfl hl.1 rfl (Nat.le_of_ble_eq_true rfl) dX6_crossingAt_2 (fun H locs hP hS => ?_)
  refine lv_iconst (v := 0) hx hb dX6_crossingAt_5 (by decide) ?_
  refine lv_istore_n (lv' := [(3, .int 0), (0, .ref a0), (1, .int a1), (2, .int a2)]) hx hb dX6_crossingAt_6 rfl hl (by decide) rfl (fun ls hl => ?_)
  exact L7 F _ _ _ D a1 a2 0 hP hS (lv_sub hl [1, 2, 3, 0] rfl) h

def wX6_checkCoordinate : List Cond := Cond.code yX6_checkCoordinate cX6_checkCoordinate 2 none :: WA
def t_X6_checkCoordinate (F : Nat) (S : CS) (D : CD) (a0 : Nat) (a1 : Int32) : Option (CD × String) := (if a1 < 0 then some (D, "java/lang/IllegalArgumentException") else (if a1 ≤ 100 then none else some (D, "java/lang/IllegalArgumentException")))
set_option maxRecDepth 100000 in
set_option maxHeartbeats 4000000 in
theorem tm_X6_checkCoordinate (l : Launch) (hfl : l.stackTraces = false) (G : cG) (F : Nat) (S : CS) (D D2 : CD) (a0 : Nat) (a1 : Int32) (E : String) (h : t_X6_checkCoordinate F S D a0 a1 = some (D2, E)) : cMTV l yX6_checkCoordinate wX6_checkCoordinate ({ frames := 6, cells := 1, slots := 6, locals := 90 }) G S [.ref a0, .int a1] D D2 E := by
  refine cBodyT (Qc := xQV) (cc := cX6_checkCoordinate) (maxL := 2) (ret := none) (own := RX6) (by decide) rfl rfl ?_
  intro sz p e s m below meth c hC hP hX hno
  have hin : ∀ w ∈ WA, w ∈ wX6_checkCoordinate := fun w h => List.mem_cons_of_mem _ h
  have hC0 := hC
  obtain ⟨hx, hb, -, hts, hown, -, hml, -, -, -⟩ := hC0
  have hS : va_S (cA G S sz) s.heap s.heap [] := va_S.rf
  refine m_entry (Nat.le_of_ble_eq_true rfl) (fun ls hl => ?_)
  have hl : lv_has ls 2 [(0, .ref a0), (1, .int a1)] := hl
  unfold t_X6_checkCoordinate at h
  refine lv_iload_n hx hb dX6_checkCoordinate_0 rfl (lv_at hl 1 rfl) ?_
  refine lv_if_lt (tgt := 10) hx hb dX6_checkCoordinate_1 (by decide) (fun u1 => ?_) (fun u1 => ?_)
  · have h := ite_t u1 h
    cases h
    exact c_throw hfl hC hP hS hX hno hin xk_72 (text := "a coordinate is not from 0 to 100") (by decide +kernel) hl.1 (by exact ⟨Nat.le_of_ble_eq_true rfl, Nat.le_of_ble_eq_true rfl, Nat.le_of_ble_eq_true rfl, Nat.le_of_ble_eq_true rfl⟩) dX6_checkCoordinate_10 dX6_checkCoordinate_13 dX6_checkCoordinate_14 dX6_checkCoordinate_16 dX6_checkCoordinate_19
  · have h := ite_f u1 h
    refine lv_iload_n hx hb dX6_checkCoordinate_4 rfl (lv_at hl 1 rfl) ?_
    refine lv_bipush (v := 100) hx hb dX6_checkCoordinate_5 (by decide) ?_
    refine lv_icmp_le (tgt := 20) hx hb dX6_checkCoordinate_7 (by decide) (fun u2 => ?_) (fun u2 => ?_)
    · have h := ite_t u2 h
      cases h
    · have h := ite_f u2 h
      cases h
      exact c_throw hfl hC hP hS hX hno hin xk_72 (text := "a coordinate is not from 0 to 100") (by decide +kernel) hl.1 (by exact ⟨Nat.le_of_ble_eq_true rfl, Nat.le_of_ble_eq_true rfl, Nat.le_of_ble_eq_true rfl, Nat.le_of_ble_eq_true rfl⟩) dX6_checkCoordinate_10 dX6_checkCoordinate_13 dX6_checkCoordinate_14 dX6_checkCoordinate_16 dX6_checkCoordinate_19

def wX6_checkSegment : List Cond := Cond.code yX6_checkSegment cX6_checkSegment 2 none :: WA
def t_X6_checkSegment (F : Nat) (S : CS) (D : CD) (a0 : Nat) (a1 : Int32) : Option (CD × String) := (if a1 < 0 then some (D, "java/lang/IndexOutOfBoundsException") else ckK S a0 6 <| cal (S.2.2.1 a0 0) fun p3 => ckK S p3 7 <| cal (f_Jx4a65c_size_8abf5 F S D p3) fun t7 => (if a1 < t7 then none else some (D, "java/lang/IndexOutOfBoundsException")))
set_option maxRecDepth 100000 in
set_option maxHeartbeats 4000000 in
theorem tm_X6_checkSegment (l : Launch) (hfl : l.stackTraces = false) (G : cG) (F : Nat) (S : CS) (D D2 : CD) (a0 : Nat) (a1 : Int32) (E : String) (h : t_X6_checkSegment F S D a0 a1 = some (D2, E)) : cMTV l yX6_checkSegment wX6_checkSegment ({ frames := 6, cells := 1, slots := 6, locals := 90 }) G S [.ref a0, .int a1] D D2 E := by
  refine cBodyT (Qc := xQV) (cc := cX6_checkSegment) (maxL := 2) (ret := none) (own := RX6) (by decide) rfl rfl ?_
  intro sz p e s m below meth c hC hP hX hno
  have hin : ∀ w ∈ WA, w ∈ wX6_checkSegment := fun w h => List.mem_cons_of_mem _ h
  have hC0 := hC
  obtain ⟨hx, hb, -, hts, hown, -, hml, -, -, -⟩ := hC0
  have hS : va_S (cA G S sz) s.heap s.heap [] := va_S.rf
  have hin_X6 : ∀ w ∈ wsX60, w ∈ wX6_checkSegment := fun w h => List.mem_cons_of_mem _ (hWCA _ (hWC6 w h))
  have fl_X6_lines := hts _ (List.mem_cons_of_mem _ (hWCA _ wc_3))
  refine m_entry (Nat.le_of_ble_eq_true rfl) (fun ls hl => ?_)
  have hl : lv_has ls 2 [(0, .ref a0), (1, .int a1)] := hl
  unfold t_X6_checkSegment at h
  refine lv_iload_n hx hb dX6_checkSegment_0 rfl (lv_at hl 1 rfl) ?_
  refine lv_if_lt (tgt := 15) hx hb dX6_checkSegment_1 (by decide) (fun u1 => ?_) (fun u1 => ?_)
  · have h := ite_t u1 h
    cases h
    exact c_throw hfl hC hP hS hX hno hin xk_194 (text := "no such segment") (by decide +kernel) hl.1 (by exact ⟨Nat.le_of_ble_eq_true rfl, Nat.le_of_ble_eq_true rfl, Nat.le_of_ble_eq_true rfl, Nat.le_of_ble_eq_true rfl⟩) dX6_checkSegment_15 dX6_checkSegment_18 dX6_checkSegment_19 dX6_checkSegment_21 dX6_checkSegment_24
  · have h := ite_f u1 h
    refine lv_iload_n hx hb dX6_checkSegment_4 rfl (lv_at hl 1 rfl) ?_
    refine lv_aload_n hx hb dX6_checkSegment_5 rfl (lv_at hl 0 rfl) ?_
    obtain ⟨z2, h⟩ := ckK_el h
    obtain ⟨p3, e4, h⟩ := cal_el h
    refine c_get (C := RX6) (T := TX6) (N := 8) (ref := "SegmentMap") (ci := 7) (v := .ref p3) hC hin_X6 hP z2.1 (cE_6 z2.2) rfl 0 (by decide) fl_X6_lines rfl (by show some (va_rf (S.2.2.1 a0 0)) = _; rw [e4]; rfl) dX6_checkSegment_6 ?_
    obtain ⟨z5, h⟩ := ckK_el h
    obtain ⟨t7, e6, h⟩ := cal_el h
    refine c_VI (As := []) (rest := [.int a1]) hC hP hS z5.1 (cE_7 z5.2) (C := RJx4a65c) (T := TJx4a65c) (N := 3) rfl (m_Jx4a65c_size_8abf5 l G F S D p3 t7 e6) (cwV 0 hts (gVA (hWCA _ wc_4) (hWCA _ wc_5) (hWCA _ wc_6) (hWCA _ wc_7) (hWCA _ wc_0) hWCA) rfl rfl rfl (by decide +kernel) ⟨Nat.le_of_ble_eq_true rfl, Nat.le_of_ble_eq_true rfl⟩) rfl hl.1 rfl (Nat.le_of_ble_eq_true rfl) dX6_checkSegment_9 (fun H locs hP hS => ?_)
    refine lv_icmp_lt (tgt := 25) hx hb dX6_checkSegment_12 (by decide) (fun u8 => ?_) (fun u8 => ?_)
    · have h := ite_t u8 h
      cases h
    · have h := ite_f u8 h
      cases h
      exact c_throw hfl hC hP hS hX hno hin xk_194 (text := "no such segment") (by decide +kernel) hl.1 (by exact ⟨Nat.le_of_ble_eq_true rfl, Nat.le_of_ble_eq_true rfl, Nat.le_of_ble_eq_true rfl, Nat.le_of_ble_eq_true rfl⟩) dX6_checkSegment_15 dX6_checkSegment_18 dX6_checkSegment_19 dX6_checkSegment_21 dX6_checkSegment_24

def wX6_checkVertex : List Cond := Cond.code yX6_checkVertex cX6_checkVertex 2 none :: WA
def t_X6_checkVertex (F : Nat) (S : CS) (D : CD) (a0 : Nat) (a1 : Int32) : Option (CD × String) := (if a1 < 0 then some (D, "java/lang/IndexOutOfBoundsException") else ckK S a0 6 <| cal (S.2.2.1 a0 2) fun p3 => ckK S p3 5 <| (if a1 < (D.1 p3 6) then none else some (D, "java/lang/IndexOutOfBoundsException")))
set_option maxRecDepth 100000 in
set_option maxHeartbeats 4000000 in
theorem tm_X6_checkVertex (l : Launch) (hfl : l.stackTraces = false) (G : cG) (F : Nat) (S : CS) (D D2 : CD) (a0 : Nat) (a1 : Int32) (E : String) (h : t_X6_checkVertex F S D a0 a1 = some (D2, E)) : cMTV l yX6_checkVertex wX6_checkVertex ({ frames := 6, cells := 1, slots := 6, locals := 90 }) G S [.ref a0, .int a1] D D2 E := by
  refine cBodyT (Qc := xQV) (cc := cX6_checkVertex) (maxL := 2) (ret := none) (own := RX6) (by decide) rfl rfl ?_
  intro sz p e s m below meth c hC hP hX hno
  have hin : ∀ w ∈ WA, w ∈ wX6_checkVertex := fun w h => List.mem_cons_of_mem _ h
  have hC0 := hC
  obtain ⟨hx, hb, -, hts, hown, -, hml, -, -, -⟩ := hC0
  have hS : va_S (cA G S sz) s.heap s.heap [] := va_S.rf
  have hin_X5 : ∀ w ∈ wsX50, w ∈ wX6_checkVertex := fun w h => List.mem_cons_of_mem _ (hWCA _ (hWC5 w h))
  have hin_X6 : ∀ w ∈ wsX60, w ∈ wX6_checkVertex := fun w h => List.mem_cons_of_mem _ (hWCA _ (hWC6 w h))
  have fl_X6_corners := hts _ (List.mem_cons_of_mem _ (hWCA _ wc_74))
  refine m_entry (Nat.le_of_ble_eq_true rfl) (fun ls hl => ?_)
  have hl : lv_has ls 2 [(0, .ref a0), (1, .int a1)] := hl
  unfold t_X6_checkVertex at h
  refine lv_iload_n hx hb dX6_checkVertex_0 rfl (lv_at hl 1 rfl) ?_
  refine lv_if_lt (tgt := 15) hx hb dX6_checkVertex_1 (by decide) (fun u1 => ?_) (fun u1 => ?_)
  · have h := ite_t u1 h
    cases h
    exact c_throw hfl hC hP hS hX hno hin xk_194 (text := "no such vertex") (by decide +kernel) hl.1 (by exact ⟨Nat.le_of_ble_eq_true rfl, Nat.le_of_ble_eq_true rfl, Nat.le_of_ble_eq_true rfl, Nat.le_of_ble_eq_true rfl⟩) dX6_checkVertex_15 dX6_checkVertex_18 dX6_checkVertex_19 dX6_checkVertex_21 dX6_checkVertex_24
  · have h := ite_f u1 h
    refine lv_iload_n hx hb dX6_checkVertex_4 rfl (lv_at hl 1 rfl) ?_
    refine lv_aload_n hx hb dX6_checkVertex_5 rfl (lv_at hl 0 rfl) ?_
    obtain ⟨z2, h⟩ := ckK_el h
    obtain ⟨p3, e4, h⟩ := cal_el h
    refine c_get (C := RX6) (T := TX6) (N := 8) (ref := "SegmentMap") (ci := 7) (v := .ref p3) hC hin_X6 hP z2.1 (cE_6 z2.2) rfl 2 (by decide) fl_X6_corners rfl (by show some (va_rf (S.2.2.1 a0 2)) = _; rw [e4]; rfl) dX6_checkVertex_6 ?_
    obtain ⟨z5, h⟩ := ckK_el h
    refine c_getN (C := RX5) (T := TX5) (N := 7) (ref := "SegmentMap$Vertices") (ci := 6) (v := .int (D.1 p3 6)) hC hin_X5 hP z5.1 (cE_5 z5.2) rfl 6 (by decide) (nm := "count") (ds := "I") (List.mem_of_getElem? (i := 0) rfl) rfl rfl dX6_checkVertex_9 ?_
    refine lv_icmp_lt (tgt := 25) hx hb dX6_checkVertex_12 (by decide) (fun u6 => ?_) (fun u6 => ?_)
    · have h := ite_t u6 h
      cases h
    · have h := ite_f u6 h
      cases h
      exact c_throw hfl hC hP hS hX hno hin xk_194 (text := "no such vertex") (by decide +kernel) hl.1 (by exact ⟨Nat.le_of_ble_eq_true rfl, Nat.le_of_ble_eq_true rfl, Nat.le_of_ble_eq_true rfl, Nat.le_of_ble_eq_true rfl⟩) dX6_checkVertex_15 dX6_checkVertex_18 dX6_checkVertex_19 dX6_checkVertex_21 dX6_checkVertex_24

def wX6_checkEdge : List Cond := Cond.code yX6_checkEdge cX6_checkEdge 2 none :: WA
def t_X6_checkEdge (F : Nat) (S : CS) (D : CD) (a0 : Nat) (a1 : Int32) : Option (CD × String) := (if a1 < 0 then some (D, "java/lang/IndexOutOfBoundsException") else ckK S a0 6 <| cal (S.2.2.1 a0 3) fun p3 => ckK S p3 0 <| (if a1 < (D.1 p3 5) then none else some (D, "java/lang/IndexOutOfBoundsException")))
set_option maxRecDepth 100000 in
set_option maxHeartbeats 4000000 in
theorem tm_X6_checkEdge (l : Launch) (hfl : l.stackTraces = false) (G : cG) (F : Nat) (S : CS) (D D2 : CD) (a0 : Nat) (a1 : Int32) (E : String) (h : t_X6_checkEdge F S D a0 a1 = some (D2, E)) : cMTV l yX6_checkEdge wX6_checkEdge ({ frames := 6, cells := 1, slots := 6, locals := 90 }) G S [.ref a0, .int a1] D D2 E := by
  refine cBodyT (Qc := xQV) (cc := cX6_checkEdge) (maxL := 2) (ret := none) (own := RX6) (by decide) rfl rfl ?_
  intro sz p e s m below meth c hC hP hX hno
  have hin : ∀ w ∈ WA, w ∈ wX6_checkEdge := fun w h => List.mem_cons_of_mem _ h
  have hC0 := hC
  obtain ⟨hx, hb, -, hts, hown, -, hml, -, -, -⟩ := hC0
  have hS : va_S (cA G S sz) s.heap s.heap [] := va_S.rf
  have hin_X0 : ∀ w ∈ wsX00, w ∈ wX6_checkEdge := fun w h => List.mem_cons_of_mem _ (hWCA _ (hWC0 w h))
  have hin_X6 : ∀ w ∈ wsX60, w ∈ wX6_checkEdge := fun w h => List.mem_cons_of_mem _ (hWCA _ (hWC6 w h))
  have fl_X6_pieces := hts _ (List.mem_cons_of_mem _ (hWCA _ wc_76))
  refine m_entry (Nat.le_of_ble_eq_true rfl) (fun ls hl => ?_)
  have hl : lv_has ls 2 [(0, .ref a0), (1, .int a1)] := hl
  unfold t_X6_checkEdge at h
  refine lv_iload_n hx hb dX6_checkEdge_0 rfl (lv_at hl 1 rfl) ?_
  refine lv_if_lt (tgt := 15) hx hb dX6_checkEdge_1 (by decide) (fun u1 => ?_) (fun u1 => ?_)
  · have h := ite_t u1 h
    cases h
    exact c_throw hfl hC hP hS hX hno hin xk_194 (text := "no such edge") (by decide +kernel) hl.1 (by exact ⟨Nat.le_of_ble_eq_true rfl, Nat.le_of_ble_eq_true rfl, Nat.le_of_ble_eq_true rfl, Nat.le_of_ble_eq_true rfl⟩) dX6_checkEdge_15 dX6_checkEdge_18 dX6_checkEdge_19 dX6_checkEdge_21 dX6_checkEdge_24
  · have h := ite_f u1 h
    refine lv_iload_n hx hb dX6_checkEdge_4 rfl (lv_at hl 1 rfl) ?_
    refine lv_aload_n hx hb dX6_checkEdge_5 rfl (lv_at hl 0 rfl) ?_
    obtain ⟨z2, h⟩ := ckK_el h
    obtain ⟨p3, e4, h⟩ := cal_el h
    refine c_get (C := RX6) (T := TX6) (N := 8) (ref := "SegmentMap") (ci := 7) (v := .ref p3) hC hin_X6 hP z2.1 (cE_6 z2.2) rfl 3 (by decide) fl_X6_pieces rfl (by show some (va_rf (S.2.2.1 a0 3)) = _; rw [e4]; rfl) dX6_checkEdge_6 ?_
    obtain ⟨z5, h⟩ := ckK_el h
    refine c_getN (C := RX0) (T := TX0) (N := 6) (ref := "SegmentMap$Edges") (ci := 1) (v := .int (D.1 p3 5)) hC hin_X0 hP z5.1 (cE_0 z5.2) rfl 5 (by decide) (nm := "count") (ds := "I") (List.mem_of_getElem? (i := 1) rfl) rfl rfl dX6_checkEdge_9 ?_
    refine lv_icmp_lt (tgt := 25) hx hb dX6_checkEdge_12 (by decide) (fun u6 => ?_) (fun u6 => ?_)
    · have h := ite_t u6 h
      cases h
    · have h := ite_f u6 h
      cases h
      exact c_throw hfl hC hP hS hX hno hin xk_194 (text := "no such edge") (by decide +kernel) hl.1 (by exact ⟨Nat.le_of_ble_eq_true rfl, Nat.le_of_ble_eq_true rfl, Nat.le_of_ble_eq_true rfl, Nat.le_of_ble_eq_true rfl⟩) dX6_checkEdge_15 dX6_checkEdge_18 dX6_checkEdge_19 dX6_checkEdge_21 dX6_checkEdge_24

def wX6_checkFace : List Cond := Cond.code yX6_checkFace cX6_checkFace 2 none :: WA
def t_X6_checkFace (F : Nat) (S : CS) (D : CD) (a0 : Nat) (a1 : Int32) : Option (CD × String) := (if a1 < 0 then some (D, "java/lang/IndexOutOfBoundsException") else ckK S a0 6 <| cal (S.2.2.1 a0 4) fun p3 => ckK S p3 1 <| (if a1 < (D.1 p3 2) then none else some (D, "java/lang/IndexOutOfBoundsException")))
set_option maxRecDepth 100000 in
set_option maxHeartbeats 4000000 in
theorem tm_X6_checkFace (l : Launch) (hfl : l.stackTraces = false) (G : cG) (F : Nat) (S : CS) (D D2 : CD) (a0 : Nat) (a1 : Int32) (E : String) (h : t_X6_checkFace F S D a0 a1 = some (D2, E)) : cMTV l yX6_checkFace wX6_checkFace ({ frames := 6, cells := 1, slots := 6, locals := 90 }) G S [.ref a0, .int a1] D D2 E := by
  refine cBodyT (Qc := xQV) (cc := cX6_checkFace) (maxL := 2) (ret := none) (own := RX6) (by decide) rfl rfl ?_
  intro sz p e s m below meth c hC hP hX hno
  have hin : ∀ w ∈ WA, w ∈ wX6_checkFace := fun w h => List.mem_cons_of_mem _ h
  have hC0 := hC
  obtain ⟨hx, hb, -, hts, hown, -, hml, -, -, -⟩ := hC0
  have hS : va_S (cA G S sz) s.heap s.heap [] := va_S.rf
  have hin_X1 : ∀ w ∈ wsX10, w ∈ wX6_checkFace := fun w h => List.mem_cons_of_mem _ (hWCA _ (hWC1 w h))
  have hin_X6 : ∀ w ∈ wsX60, w ∈ wX6_checkFace := fun w h => List.mem_cons_of_mem _ (hWCA _ (hWC6 w h))
  have fl_X6_regions := hts _ (List.mem_cons_of_mem _ (hWCA _ wc_78))
  refine m_entry (Nat.le_of_ble_eq_true rfl) (fun ls hl => ?_)
  have hl : lv_has ls 2 [(0, .ref a0), (1, .int a1)] := hl
  unfold t_X6_checkFace at h
  refine lv_iload_n hx hb dX6_checkFace_0 rfl (lv_at hl 1 rfl) ?_
  refine lv_if_lt (tgt := 15) hx hb dX6_checkFace_1 (by decide) (fun u1 => ?_) (fun u1 => ?_)
  · have h := ite_t u1 h
    cases h
    exact c_throw hfl hC hP hS hX hno hin xk_194 (text := "no such face") (by decide +kernel) hl.1 (by exact ⟨Nat.le_of_ble_eq_true rfl, Nat.le_of_ble_eq_true rfl, Nat.le_of_ble_eq_true rfl, Nat.le_of_ble_eq_true rfl⟩) dX6_checkFace_15 dX6_checkFace_18 dX6_checkFace_19 dX6_checkFace_21 dX6_checkFace_24
  · have h := ite_f u1 h
    refine lv_iload_n hx hb dX6_checkFace_4 rfl (lv_at hl 1 rfl) ?_
    refine lv_aload_n hx hb dX6_checkFace_5 rfl (lv_at hl 0 rfl) ?_
    obtain ⟨z2, h⟩ := ckK_el h
    obtain ⟨p3, e4, h⟩ := cal_el h
    refine c_get (C := RX6) (T := TX6) (N := 8) (ref := "SegmentMap") (ci := 7) (v := .ref p3) hC hin_X6 hP z2.1 (cE_6 z2.2) rfl 4 (by decide) fl_X6_regions rfl (by show some (va_rf (S.2.2.1 a0 4)) = _; rw [e4]; rfl) dX6_checkFace_6 ?_
    obtain ⟨z5, h⟩ := ckK_el h
    refine c_getN (C := RX1) (T := TX1) (N := 3) (ref := "SegmentMap$Faces") (ci := 2) (v := .int (D.1 p3 2)) hC hin_X1 hP z5.1 (cE_1 z5.2) rfl 2 (by decide) (nm := "count") (ds := "I") (List.mem_of_getElem? (i := 2) rfl) rfl rfl dX6_checkFace_9 ?_
    refine lv_icmp_lt (tgt := 25) hx hb dX6_checkFace_12 (by decide) (fun u6 => ?_) (fun u6 => ?_)
    · have h := ite_t u6 h
      cases h
    · have h := ite_f u6 h
      cases h
      exact c_throw hfl hC hP hS hX hno hin xk_194 (text := "no such face") (by decide +kernel) hl.1 (by exact ⟨Nat.le_of_ble_eq_true rfl, Nat.le_of_ble_eq_true rfl, Nat.le_of_ble_eq_true rfl, Nat.le_of_ble_eq_true rfl⟩) dX6_checkFace_15 dX6_checkFace_18 dX6_checkFace_19 dX6_checkFace_21 dX6_checkFace_24

def wX6_meet : List Cond := Cond.code yX6_meet cX6_meet 3 (some .boolean) :: WA
def t_X6_meet (F : Nat) (S : CS) (D : CD) (a0 : Nat) (a1 : Int32) (a2 : Int32) : Option (CD × String) := ckK S a0 6 <| thr (f_X6_checkSegment F S D a0 a1) (t_X6_checkSegment F S D a0 a1) fun _ => thr (f_X6_checkSegment F S D a0 a2) (t_X6_checkSegment F S D a0 a2) fun _ => none
set_option maxRecDepth 100000 in
set_option maxHeartbeats 4000000 in
theorem tm_X6_meet (l : Launch) (hfl : l.stackTraces = false) (G : cG) (F : Nat) (S : CS) (D D2 : CD) (a0 : Nat) (a1 : Int32) (a2 : Int32) (E : String) (h : t_X6_meet F S D a0 a1 a2 = some (D2, E)) : cMTI l yX6_meet wX6_meet ({ frames := 7, cells := 1, slots := 6, locals := 111 }) G S [.ref a0, .int a1, .int a2] D D2 E := by
  refine cBodyT (Qc := xQI) (cc := cX6_meet) (maxL := 3) (ret := (some .boolean)) (own := RX6) (by decide) rfl rfl ?_
  intro sz p e s m below meth c hC hP hX hno
  have hin : ∀ w ∈ WA, w ∈ wX6_meet := fun w h => List.mem_cons_of_mem _ h
  have hC0 := hC
  obtain ⟨hx, hb, -, hts, hown, -, hml, -, -, -⟩ := hC0
  have hS : va_S (cA G S sz) s.heap s.heap [] := va_S.rf
  refine m_entry (Nat.le_of_ble_eq_true rfl) (fun ls hl => ?_)
  have hl : lv_has ls 3 [(0, .ref a0), (1, .int a1), (2, .int a2)] := hl
  unfold t_X6_meet at h
  refine lv_aload_n hx hb dX6_meet_0 rfl (lv_at hl 0 rfl) ?_
  refine lv_iload_n hx hb dX6_meet_1 rfl (lv_at hl 1 rfl) ?_
  obtain ⟨z1, h⟩ := ckK_el h
  rcases thr_el h with ⟨_, e2, h⟩ | h
  · refine c_VV (As := [.int a1]) (rest := []) hC hP hS z1.1 (cE_6 z1.2) (C := RX6) (T := TX6) (N := 8) rfl (m_X6_checkSegment l G F S D a0 a1 e2) (cwV 1 hts (gVA (hWCA _ wc_63) (hWCA _ wc_64) (hWCA _ wc_65) (hWCA _ wc_66) (hWCA _ wc_8) hWCA) rfl rfl rfl (by decide +kernel) ⟨Nat.le_of_ble_eq_true rfl, Nat.le_of_ble_eq_true rfl⟩) rfl hl.1 rfl (Nat.le_of_ble_eq_true rfl) dX6_meet_2 (fun H locs hP hS => ?_)
    refine lv_aload_n hx hb dX6_meet_5 rfl (lv_at hl 0 rfl) ?_
    refine lv_iload_n hx hb dX6_meet_6 rfl (lv_at hl 2 rfl) ?_
    rcases thr_el h with ⟨_, e3, h⟩ | h
    · cases h
    · exact c_TV (As := [.int a2]) (rest := []) hC hP hS hX hno z1.1 (cE_6 z1.2) (C := RX6) (T := TX6) (N := 8) rfl (tm_X6_checkSegment l hfl G F S D _ a0 a2 _ h) (cwV 1 hts (gVA (hWCA _ wc_63) (hWCA _ wc_64) (hWCA _ wc_65) (hWCA _ wc_66) (hWCA _ wc_8) (fun w h => h)) rfl rfl rfl (by decide +kernel) ⟨Nat.le_of_ble_eq_true rfl, Nat.le_of_ble_eq_true rfl⟩) rfl hl.1 rfl (Nat.le_of_ble_eq_true rfl) ⟨Nat.le_of_ble_eq_true rfl, Nat.le_of_ble_eq_true rfl⟩ dX6_meet_7
  · exact c_TV (As := [.int a1]) (rest := []) hC hP hS hX hno z1.1 (cE_6 z1.2) (C := RX6) (T := TX6) (N := 8) rfl (tm_X6_checkSegment l hfl G F S D _ a0 a1 _ h) (cwV 1 hts (gVA (hWCA _ wc_63) (hWCA _ wc_64) (hWCA _ wc_65) (hWCA _ wc_66) (hWCA _ wc_8) (fun w h => h)) rfl rfl rfl (by decide +kernel) ⟨Nat.le_of_ble_eq_true rfl, Nat.le_of_ble_eq_true rfl⟩) rfl hl.1 rfl (Nat.le_of_ble_eq_true rfl) ⟨Nat.le_of_ble_eq_true rfl, Nat.le_of_ble_eq_true rfl⟩ dX6_meet_2

def wX6_xNumerator : List Cond := Cond.code yX6_xNumerator cX6_xNumerator 2 (some .int) :: WA
def t_X6_xNumerator (F : Nat) (S : CS) (D : CD) (a0 : Nat) (a1 : Int32) : Option (CD × String) := ckK S a0 6 <| thr (f_X6_checkVertex F S D a0 a1) (t_X6_checkVertex F S D a0 a1) fun _ => none
set_option maxRecDepth 100000 in
set_option maxHeartbeats 4000000 in
theorem tm_X6_xNumerator (l : Launch) (hfl : l.stackTraces = false) (G : cG) (F : Nat) (S : CS) (D D2 : CD) (a0 : Nat) (a1 : Int32) (E : String) (h : t_X6_xNumerator F S D a0 a1 = some (D2, E)) : cMTI l yX6_xNumerator wX6_xNumerator ({ frames := 7, cells := 1, slots := 6, locals := 111 }) G S [.ref a0, .int a1] D D2 E := by
  refine cBodyT (Qc := xQI) (cc := cX6_xNumerator) (maxL := 2) (ret := (some .int)) (own := RX6) (by decide) rfl rfl ?_
  intro sz p e s m below meth c hC hP hX hno
  have hin : ∀ w ∈ WA, w ∈ wX6_xNumerator := fun w h => List.mem_cons_of_mem _ h
  have hC0 := hC
  obtain ⟨hx, hb, -, hts, hown, -, hml, -, -, -⟩ := hC0
  have hS : va_S (cA G S sz) s.heap s.heap [] := va_S.rf
  refine m_entry (Nat.le_of_ble_eq_true rfl) (fun ls hl => ?_)
  have hl : lv_has ls 2 [(0, .ref a0), (1, .int a1)] := hl
  unfold t_X6_xNumerator at h
  refine lv_aload_n hx hb dX6_xNumerator_0 rfl (lv_at hl 0 rfl) ?_
  refine lv_iload_n hx hb dX6_xNumerator_1 rfl (lv_at hl 1 rfl) ?_
  obtain ⟨z1, h⟩ := ckK_el h
  rcases thr_el h with ⟨_, e2, h⟩ | h
  · cases h
  · exact c_TV (As := [.int a1]) (rest := []) hC hP hS hX hno z1.1 (cE_6 z1.2) (C := RX6) (T := TX6) (N := 8) rfl (tm_X6_checkVertex l hfl G F S D _ a0 a1 _ h) (cwV 1 hts (gVA (hWCA _ wc_86) (hWCA _ wc_87) (hWCA _ wc_88) (hWCA _ wc_66) (hWCA _ wc_81) (fun w h => h)) rfl rfl rfl (by decide +kernel) ⟨Nat.le_of_ble_eq_true rfl, Nat.le_of_ble_eq_true rfl⟩) rfl hl.1 rfl (Nat.le_of_ble_eq_true rfl) ⟨Nat.le_of_ble_eq_true rfl, Nat.le_of_ble_eq_true rfl⟩ dX6_xNumerator_2

def wX6_xDenominator : List Cond := Cond.code yX6_xDenominator cX6_xDenominator 2 (some .int) :: WA
def t_X6_xDenominator (F : Nat) (S : CS) (D : CD) (a0 : Nat) (a1 : Int32) : Option (CD × String) := ckK S a0 6 <| thr (f_X6_checkVertex F S D a0 a1) (t_X6_checkVertex F S D a0 a1) fun _ => none
set_option maxRecDepth 100000 in
set_option maxHeartbeats 4000000 in
theorem tm_X6_xDenominator (l : Launch) (hfl : l.stackTraces = false) (G : cG) (F : Nat) (S : CS) (D D2 : CD) (a0 : Nat) (a1 : Int32) (E : String) (h : t_X6_xDenominator F S D a0 a1 = some (D2, E)) : cMTI l yX6_xDenominator wX6_xDenominator ({ frames := 7, cells := 1, slots := 6, locals := 111 }) G S [.ref a0, .int a1] D D2 E := by
  refine cBodyT (Qc := xQI) (cc := cX6_xDenominator) (maxL := 2) (ret := (some .int)) (own := RX6) (by decide) rfl rfl ?_
  intro sz p e s m below meth c hC hP hX hno
  have hin : ∀ w ∈ WA, w ∈ wX6_xDenominator := fun w h => List.mem_cons_of_mem _ h
  have hC0 := hC
  obtain ⟨hx, hb, -, hts, hown, -, hml, -, -, -⟩ := hC0
  have hS : va_S (cA G S sz) s.heap s.heap [] := va_S.rf
  refine m_entry (Nat.le_of_ble_eq_true rfl) (fun ls hl => ?_)
  have hl : lv_has ls 2 [(0, .ref a0), (1, .int a1)] := hl
  unfold t_X6_xDenominator at h
  refine lv_aload_n hx hb dX6_xDenominator_0 rfl (lv_at hl 0 rfl) ?_
  refine lv_iload_n hx hb dX6_xDenominator_1 rfl (lv_at hl 1 rfl) ?_
  obtain ⟨z1, h⟩ := ckK_el h
  rcases thr_el h with ⟨_, e2, h⟩ | h
  · cases h
  · exact c_TV (As := [.int a1]) (rest := []) hC hP hS hX hno z1.1 (cE_6 z1.2) (C := RX6) (T := TX6) (N := 8) rfl (tm_X6_checkVertex l hfl G F S D _ a0 a1 _ h) (cwV 1 hts (gVA (hWCA _ wc_86) (hWCA _ wc_87) (hWCA _ wc_88) (hWCA _ wc_66) (hWCA _ wc_81) (fun w h => h)) rfl rfl rfl (by decide +kernel) ⟨Nat.le_of_ble_eq_true rfl, Nat.le_of_ble_eq_true rfl⟩) rfl hl.1 rfl (Nat.le_of_ble_eq_true rfl) ⟨Nat.le_of_ble_eq_true rfl, Nat.le_of_ble_eq_true rfl⟩ dX6_xDenominator_2

def wX6_yNumerator : List Cond := Cond.code yX6_yNumerator cX6_yNumerator 2 (some .int) :: WA
def t_X6_yNumerator (F : Nat) (S : CS) (D : CD) (a0 : Nat) (a1 : Int32) : Option (CD × String) := ckK S a0 6 <| thr (f_X6_checkVertex F S D a0 a1) (t_X6_checkVertex F S D a0 a1) fun _ => none
set_option maxRecDepth 100000 in
set_option maxHeartbeats 4000000 in
theorem tm_X6_yNumerator (l : Launch) (hfl : l.stackTraces = false) (G : cG) (F : Nat) (S : CS) (D D2 : CD) (a0 : Nat) (a1 : Int32) (E : String) (h : t_X6_yNumerator F S D a0 a1 = some (D2, E)) : cMTI l yX6_yNumerator wX6_yNumerator ({ frames := 7, cells := 1, slots := 6, locals := 111 }) G S [.ref a0, .int a1] D D2 E := by
  refine cBodyT (Qc := xQI) (cc := cX6_yNumerator) (maxL := 2) (ret := (some .int)) (own := RX6) (by decide) rfl rfl ?_
  intro sz p e s m below meth c hC hP hX hno
  have hin : ∀ w ∈ WA, w ∈ wX6_yNumerator := fun w h => List.mem_cons_of_mem _ h
  have hC0 := hC
  obtain ⟨hx, hb, -, hts, hown, -, hml, -, -, -⟩ := hC0
  have hS : va_S (cA G S sz) s.heap s.heap [] := va_S.rf
  refine m_entry (Nat.le_of_ble_eq_true rfl) (fun ls hl => ?_)
  have hl : lv_has ls 2 [(0, .ref a0), (1, .int a1)] := hl
  unfold t_X6_yNumerator at h
  refine lv_aload_n hx hb dX6_yNumerator_0 rfl (lv_at hl 0 rfl) ?_
  refine lv_iload_n hx hb dX6_yNumerator_1 rfl (lv_at hl 1 rfl) ?_
  obtain ⟨z1, h⟩ := ckK_el h
  rcases thr_el h with ⟨_, e2, h⟩ | h
  · cases h
  · exact c_TV (As := [.int a1]) (rest := []) hC hP hS hX hno z1.1 (cE_6 z1.2) (C := RX6) (T := TX6) (N := 8) rfl (tm_X6_checkVertex l hfl G F S D _ a0 a1 _ h) (cwV 1 hts (gVA (hWCA _ wc_86) (hWCA _ wc_87) (hWCA _ wc_88) (hWCA _ wc_66) (hWCA _ wc_81) (fun w h => h)) rfl rfl rfl (by decide +kernel) ⟨Nat.le_of_ble_eq_true rfl, Nat.le_of_ble_eq_true rfl⟩) rfl hl.1 rfl (Nat.le_of_ble_eq_true rfl) ⟨Nat.le_of_ble_eq_true rfl, Nat.le_of_ble_eq_true rfl⟩ dX6_yNumerator_2

def wX6_yDenominator : List Cond := Cond.code yX6_yDenominator cX6_yDenominator 2 (some .int) :: WA
def t_X6_yDenominator (F : Nat) (S : CS) (D : CD) (a0 : Nat) (a1 : Int32) : Option (CD × String) := ckK S a0 6 <| thr (f_X6_checkVertex F S D a0 a1) (t_X6_checkVertex F S D a0 a1) fun _ => none
set_option maxRecDepth 100000 in
set_option maxHeartbeats 4000000 in
theorem tm_X6_yDenominator (l : Launch) (hfl : l.stackTraces = false) (G : cG) (F : Nat) (S : CS) (D D2 : CD) (a0 : Nat) (a1 : Int32) (E : String) (h : t_X6_yDenominator F S D a0 a1 = some (D2, E)) : cMTI l yX6_yDenominator wX6_yDenominator ({ frames := 7, cells := 1, slots := 6, locals := 111 }) G S [.ref a0, .int a1] D D2 E := by
  refine cBodyT (Qc := xQI) (cc := cX6_yDenominator) (maxL := 2) (ret := (some .int)) (own := RX6) (by decide) rfl rfl ?_
  intro sz p e s m below meth c hC hP hX hno
  have hin : ∀ w ∈ WA, w ∈ wX6_yDenominator := fun w h => List.mem_cons_of_mem _ h
  have hC0 := hC
  obtain ⟨hx, hb, -, hts, hown, -, hml, -, -, -⟩ := hC0
  have hS : va_S (cA G S sz) s.heap s.heap [] := va_S.rf
  refine m_entry (Nat.le_of_ble_eq_true rfl) (fun ls hl => ?_)
  have hl : lv_has ls 2 [(0, .ref a0), (1, .int a1)] := hl
  unfold t_X6_yDenominator at h
  refine lv_aload_n hx hb dX6_yDenominator_0 rfl (lv_at hl 0 rfl) ?_
  refine lv_iload_n hx hb dX6_yDenominator_1 rfl (lv_at hl 1 rfl) ?_
  obtain ⟨z1, h⟩ := ckK_el h
  rcases thr_el h with ⟨_, e2, h⟩ | h
  · cases h
  · exact c_TV (As := [.int a1]) (rest := []) hC hP hS hX hno z1.1 (cE_6 z1.2) (C := RX6) (T := TX6) (N := 8) rfl (tm_X6_checkVertex l hfl G F S D _ a0 a1 _ h) (cwV 1 hts (gVA (hWCA _ wc_86) (hWCA _ wc_87) (hWCA _ wc_88) (hWCA _ wc_66) (hWCA _ wc_81) (fun w h => h)) rfl rfl rfl (by decide +kernel) ⟨Nat.le_of_ble_eq_true rfl, Nat.le_of_ble_eq_true rfl⟩) rfl hl.1 rfl (Nat.le_of_ble_eq_true rfl) ⟨Nat.le_of_ble_eq_true rfl, Nat.le_of_ble_eq_true rfl⟩ dX6_yDenominator_2

def wX6_degree : List Cond := Cond.code yX6_degree cX6_degree 2 (some .int) :: WA
def t_X6_degree (F : Nat) (S : CS) (D : CD) (a0 : Nat) (a1 : Int32) : Option (CD × String) := ckK S a0 6 <| thr (f_X6_checkVertex F S D a0 a1) (t_X6_checkVertex F S D a0 a1) fun _ => none
set_option maxRecDepth 100000 in
set_option maxHeartbeats 4000000 in
theorem tm_X6_degree (l : Launch) (hfl : l.stackTraces = false) (G : cG) (F : Nat) (S : CS) (D D2 : CD) (a0 : Nat) (a1 : Int32) (E : String) (h : t_X6_degree F S D a0 a1 = some (D2, E)) : cMTI l yX6_degree wX6_degree ({ frames := 7, cells := 1, slots := 6, locals := 111 }) G S [.ref a0, .int a1] D D2 E := by
  refine cBodyT (Qc := xQI) (cc := cX6_degree) (maxL := 2) (ret := (some .int)) (own := RX6) (by decide) rfl rfl ?_
  intro sz p e s m below meth c hC hP hX hno
  have hin : ∀ w ∈ WA, w ∈ wX6_degree := fun w h => List.mem_cons_of_mem _ h
  have hC0 := hC
  obtain ⟨hx, hb, -, hts, hown, -, hml, -, -, -⟩ := hC0
  have hS : va_S (cA G S sz) s.heap s.heap [] := va_S.rf
  refine m_entry (Nat.le_of_ble_eq_true rfl) (fun ls hl => ?_)
  have hl : lv_has ls 2 [(0, .ref a0), (1, .int a1)] := hl
  unfold t_X6_degree at h
  refine lv_aload_n hx hb dX6_degree_0 rfl (lv_at hl 0 rfl) ?_
  refine lv_iload_n hx hb dX6_degree_1 rfl (lv_at hl 1 rfl) ?_
  obtain ⟨z1, h⟩ := ckK_el h
  rcases thr_el h with ⟨_, e2, h⟩ | h
  · cases h
  · exact c_TV (As := [.int a1]) (rest := []) hC hP hS hX hno z1.1 (cE_6 z1.2) (C := RX6) (T := TX6) (N := 8) rfl (tm_X6_checkVertex l hfl G F S D _ a0 a1 _ h) (cwV 1 hts (gVA (hWCA _ wc_86) (hWCA _ wc_87) (hWCA _ wc_88) (hWCA _ wc_66) (hWCA _ wc_81) (fun w h => h)) rfl rfl rfl (by decide +kernel) ⟨Nat.le_of_ble_eq_true rfl, Nat.le_of_ble_eq_true rfl⟩) rfl hl.1 rfl (Nat.le_of_ble_eq_true rfl) ⟨Nat.le_of_ble_eq_true rfl, Nat.le_of_ble_eq_true rfl⟩ dX6_degree_2

def wX6_segmentOf : List Cond := Cond.code yX6_segmentOf cX6_segmentOf 2 (some .int) :: WA
def t_X6_segmentOf (F : Nat) (S : CS) (D : CD) (a0 : Nat) (a1 : Int32) : Option (CD × String) := ckK S a0 6 <| thr (f_X6_checkEdge F S D a0 a1) (t_X6_checkEdge F S D a0 a1) fun _ => none
set_option maxRecDepth 100000 in
set_option maxHeartbeats 4000000 in
theorem tm_X6_segmentOf (l : Launch) (hfl : l.stackTraces = false) (G : cG) (F : Nat) (S : CS) (D D2 : CD) (a0 : Nat) (a1 : Int32) (E : String) (h : t_X6_segmentOf F S D a0 a1 = some (D2, E)) : cMTI l yX6_segmentOf wX6_segmentOf ({ frames := 7, cells := 1, slots := 6, locals := 111 }) G S [.ref a0, .int a1] D D2 E := by
  refine cBodyT (Qc := xQI) (cc := cX6_segmentOf) (maxL := 2) (ret := (some .int)) (own := RX6) (by decide) rfl rfl ?_
  intro sz p e s m below meth c hC hP hX hno
  have hin : ∀ w ∈ WA, w ∈ wX6_segmentOf := fun w h => List.mem_cons_of_mem _ h
  have hC0 := hC
  obtain ⟨hx, hb, -, hts, hown, -, hml, -, -, -⟩ := hC0
  have hS : va_S (cA G S sz) s.heap s.heap [] := va_S.rf
  refine m_entry (Nat.le_of_ble_eq_true rfl) (fun ls hl => ?_)
  have hl : lv_has ls 2 [(0, .ref a0), (1, .int a1)] := hl
  unfold t_X6_segmentOf at h
  refine lv_aload_n hx hb dX6_segmentOf_0 rfl (lv_at hl 0 rfl) ?_
  refine lv_iload_n hx hb dX6_segmentOf_1 rfl (lv_at hl 1 rfl) ?_
  obtain ⟨z1, h⟩ := ckK_el h
  rcases thr_el h with ⟨_, e2, h⟩ | h
  · cases h
  · exact c_TV (As := [.int a1]) (rest := []) hC hP hS hX hno z1.1 (cE_6 z1.2) (C := RX6) (T := TX6) (N := 8) rfl (tm_X6_checkEdge l hfl G F S D _ a0 a1 _ h) (cwV 1 hts (gVA (hWCA _ wc_105) (hWCA _ wc_106) (hWCA _ wc_107) (hWCA _ wc_66) (hWCA _ wc_103) (fun w h => h)) rfl rfl rfl (by decide +kernel) ⟨Nat.le_of_ble_eq_true rfl, Nat.le_of_ble_eq_true rfl⟩) rfl hl.1 rfl (Nat.le_of_ble_eq_true rfl) ⟨Nat.le_of_ble_eq_true rfl, Nat.le_of_ble_eq_true rfl⟩ dX6_segmentOf_2

def wX6_from : List Cond := Cond.code yX6_from cX6_from 2 (some .int) :: WA
def t_X6_from (F : Nat) (S : CS) (D : CD) (a0 : Nat) (a1 : Int32) : Option (CD × String) := ckK S a0 6 <| thr (f_X6_checkEdge F S D a0 a1) (t_X6_checkEdge F S D a0 a1) fun _ => none
set_option maxRecDepth 100000 in
set_option maxHeartbeats 4000000 in
theorem tm_X6_from (l : Launch) (hfl : l.stackTraces = false) (G : cG) (F : Nat) (S : CS) (D D2 : CD) (a0 : Nat) (a1 : Int32) (E : String) (h : t_X6_from F S D a0 a1 = some (D2, E)) : cMTI l yX6_from wX6_from ({ frames := 7, cells := 1, slots := 6, locals := 111 }) G S [.ref a0, .int a1] D D2 E := by
  refine cBodyT (Qc := xQI) (cc := cX6_from) (maxL := 2) (ret := (some .int)) (own := RX6) (by decide) rfl rfl ?_
  intro sz p e s m below meth c hC hP hX hno
  have hin : ∀ w ∈ WA, w ∈ wX6_from := fun w h => List.mem_cons_of_mem _ h
  have hC0 := hC
  obtain ⟨hx, hb, -, hts, hown, -, hml, -, -, -⟩ := hC0
  have hS : va_S (cA G S sz) s.heap s.heap [] := va_S.rf
  refine m_entry (Nat.le_of_ble_eq_true rfl) (fun ls hl => ?_)
  have hl : lv_has ls 2 [(0, .ref a0), (1, .int a1)] := hl
  unfold t_X6_from at h
  refine lv_aload_n hx hb dX6_from_0 rfl (lv_at hl 0 rfl) ?_
  refine lv_iload_n hx hb dX6_from_1 rfl (lv_at hl 1 rfl) ?_
  obtain ⟨z1, h⟩ := ckK_el h
  rcases thr_el h with ⟨_, e2, h⟩ | h
  · cases h
  · exact c_TV (As := [.int a1]) (rest := []) hC hP hS hX hno z1.1 (cE_6 z1.2) (C := RX6) (T := TX6) (N := 8) rfl (tm_X6_checkEdge l hfl G F S D _ a0 a1 _ h) (cwV 1 hts (gVA (hWCA _ wc_105) (hWCA _ wc_106) (hWCA _ wc_107) (hWCA _ wc_66) (hWCA _ wc_103) (fun w h => h)) rfl rfl rfl (by decide +kernel) ⟨Nat.le_of_ble_eq_true rfl, Nat.le_of_ble_eq_true rfl⟩) rfl hl.1 rfl (Nat.le_of_ble_eq_true rfl) ⟨Nat.le_of_ble_eq_true rfl, Nat.le_of_ble_eq_true rfl⟩ dX6_from_2

def wX6_to : List Cond := Cond.code yX6_to cX6_to 2 (some .int) :: WA
def t_X6_to (F : Nat) (S : CS) (D : CD) (a0 : Nat) (a1 : Int32) : Option (CD × String) := ckK S a0 6 <| thr (f_X6_checkEdge F S D a0 a1) (t_X6_checkEdge F S D a0 a1) fun _ => none
set_option maxRecDepth 100000 in
set_option maxHeartbeats 4000000 in
theorem tm_X6_to (l : Launch) (hfl : l.stackTraces = false) (G : cG) (F : Nat) (S : CS) (D D2 : CD) (a0 : Nat) (a1 : Int32) (E : String) (h : t_X6_to F S D a0 a1 = some (D2, E)) : cMTI l yX6_to wX6_to ({ frames := 7, cells := 1, slots := 6, locals := 111 }) G S [.ref a0, .int a1] D D2 E := by
  refine cBodyT (Qc := xQI) (cc := cX6_to) (maxL := 2) (ret := (some .int)) (own := RX6) (by decide) rfl rfl ?_
  intro sz p e s m below meth c hC hP hX hno
  have hin : ∀ w ∈ WA, w ∈ wX6_to := fun w h => List.mem_cons_of_mem _ h
  have hC0 := hC
  obtain ⟨hx, hb, -, hts, hown, -, hml, -, -, -⟩ := hC0
  have hS : va_S (cA G S sz) s.heap s.heap [] := va_S.rf
  refine m_entry (Nat.le_of_ble_eq_true rfl) (fun ls hl => ?_)
  have hl : lv_has ls 2 [(0, .ref a0), (1, .int a1)] := hl
  unfold t_X6_to at h
  refine lv_aload_n hx hb dX6_to_0 rfl (lv_at hl 0 rfl) ?_
  refine lv_iload_n hx hb dX6_to_1 rfl (lv_at hl 1 rfl) ?_
  obtain ⟨z1, h⟩ := ckK_el h
  rcases thr_el h with ⟨_, e2, h⟩ | h
  · cases h
  · exact c_TV (As := [.int a1]) (rest := []) hC hP hS hX hno z1.1 (cE_6 z1.2) (C := RX6) (T := TX6) (N := 8) rfl (tm_X6_checkEdge l hfl G F S D _ a0 a1 _ h) (cwV 1 hts (gVA (hWCA _ wc_105) (hWCA _ wc_106) (hWCA _ wc_107) (hWCA _ wc_66) (hWCA _ wc_103) (fun w h => h)) rfl rfl rfl (by decide +kernel) ⟨Nat.le_of_ble_eq_true rfl, Nat.le_of_ble_eq_true rfl⟩) rfl hl.1 rfl (Nat.le_of_ble_eq_true rfl) ⟨Nat.le_of_ble_eq_true rfl, Nat.le_of_ble_eq_true rfl⟩ dX6_to_2

def wX6_leftOf : List Cond := Cond.code yX6_leftOf cX6_leftOf 2 (some .int) :: WA
def t_X6_leftOf (F : Nat) (S : CS) (D : CD) (a0 : Nat) (a1 : Int32) : Option (CD × String) := ckK S a0 6 <| thr (f_X6_checkEdge F S D a0 a1) (t_X6_checkEdge F S D a0 a1) fun _ => none
set_option maxRecDepth 100000 in
set_option maxHeartbeats 4000000 in
theorem tm_X6_leftOf (l : Launch) (hfl : l.stackTraces = false) (G : cG) (F : Nat) (S : CS) (D D2 : CD) (a0 : Nat) (a1 : Int32) (E : String) (h : t_X6_leftOf F S D a0 a1 = some (D2, E)) : cMTI l yX6_leftOf wX6_leftOf ({ frames := 7, cells := 1, slots := 6, locals := 111 }) G S [.ref a0, .int a1] D D2 E := by
  refine cBodyT (Qc := xQI) (cc := cX6_leftOf) (maxL := 2) (ret := (some .int)) (own := RX6) (by decide) rfl rfl ?_
  intro sz p e s m below meth c hC hP hX hno
  have hin : ∀ w ∈ WA, w ∈ wX6_leftOf := fun w h => List.mem_cons_of_mem _ h
  have hC0 := hC
  obtain ⟨hx, hb, -, hts, hown, -, hml, -, -, -⟩ := hC0
  have hS : va_S (cA G S sz) s.heap s.heap [] := va_S.rf
  refine m_entry (Nat.le_of_ble_eq_true rfl) (fun ls hl => ?_)
  have hl : lv_has ls 2 [(0, .ref a0), (1, .int a1)] := hl
  unfold t_X6_leftOf at h
  refine lv_aload_n hx hb dX6_leftOf_0 rfl (lv_at hl 0 rfl) ?_
  refine lv_iload_n hx hb dX6_leftOf_1 rfl (lv_at hl 1 rfl) ?_
  obtain ⟨z1, h⟩ := ckK_el h
  rcases thr_el h with ⟨_, e2, h⟩ | h
  · cases h
  · exact c_TV (As := [.int a1]) (rest := []) hC hP hS hX hno z1.1 (cE_6 z1.2) (C := RX6) (T := TX6) (N := 8) rfl (tm_X6_checkEdge l hfl G F S D _ a0 a1 _ h) (cwV 1 hts (gVA (hWCA _ wc_105) (hWCA _ wc_106) (hWCA _ wc_107) (hWCA _ wc_66) (hWCA _ wc_103) (fun w h => h)) rfl rfl rfl (by decide +kernel) ⟨Nat.le_of_ble_eq_true rfl, Nat.le_of_ble_eq_true rfl⟩) rfl hl.1 rfl (Nat.le_of_ble_eq_true rfl) ⟨Nat.le_of_ble_eq_true rfl, Nat.le_of_ble_eq_true rfl⟩ dX6_leftOf_2

def wX6_rightOf : List Cond := Cond.code yX6_rightOf cX6_rightOf 2 (some .int) :: WA
def t_X6_rightOf (F : Nat) (S : CS) (D : CD) (a0 : Nat) (a1 : Int32) : Option (CD × String) := ckK S a0 6 <| thr (f_X6_checkEdge F S D a0 a1) (t_X6_checkEdge F S D a0 a1) fun _ => none
set_option maxRecDepth 100000 in
set_option maxHeartbeats 4000000 in
theorem tm_X6_rightOf (l : Launch) (hfl : l.stackTraces = false) (G : cG) (F : Nat) (S : CS) (D D2 : CD) (a0 : Nat) (a1 : Int32) (E : String) (h : t_X6_rightOf F S D a0 a1 = some (D2, E)) : cMTI l yX6_rightOf wX6_rightOf ({ frames := 7, cells := 1, slots := 6, locals := 111 }) G S [.ref a0, .int a1] D D2 E := by
  refine cBodyT (Qc := xQI) (cc := cX6_rightOf) (maxL := 2) (ret := (some .int)) (own := RX6) (by decide) rfl rfl ?_
  intro sz p e s m below meth c hC hP hX hno
  have hin : ∀ w ∈ WA, w ∈ wX6_rightOf := fun w h => List.mem_cons_of_mem _ h
  have hC0 := hC
  obtain ⟨hx, hb, -, hts, hown, -, hml, -, -, -⟩ := hC0
  have hS : va_S (cA G S sz) s.heap s.heap [] := va_S.rf
  refine m_entry (Nat.le_of_ble_eq_true rfl) (fun ls hl => ?_)
  have hl : lv_has ls 2 [(0, .ref a0), (1, .int a1)] := hl
  unfold t_X6_rightOf at h
  refine lv_aload_n hx hb dX6_rightOf_0 rfl (lv_at hl 0 rfl) ?_
  refine lv_iload_n hx hb dX6_rightOf_1 rfl (lv_at hl 1 rfl) ?_
  obtain ⟨z1, h⟩ := ckK_el h
  rcases thr_el h with ⟨_, e2, h⟩ | h
  · cases h
  · exact c_TV (As := [.int a1]) (rest := []) hC hP hS hX hno z1.1 (cE_6 z1.2) (C := RX6) (T := TX6) (N := 8) rfl (tm_X6_checkEdge l hfl G F S D _ a0 a1 _ h) (cwV 1 hts (gVA (hWCA _ wc_105) (hWCA _ wc_106) (hWCA _ wc_107) (hWCA _ wc_66) (hWCA _ wc_103) (fun w h => h)) rfl rfl rfl (by decide +kernel) ⟨Nat.le_of_ble_eq_true rfl, Nat.le_of_ble_eq_true rfl⟩) rfl hl.1 rfl (Nat.le_of_ble_eq_true rfl) ⟨Nat.le_of_ble_eq_true rfl, Nat.le_of_ble_eq_true rfl⟩ dX6_rightOf_2

def wX6_sides : List Cond := Cond.code yX6_sides cX6_sides 2 (some .int) :: WA
def t_X6_sides (F : Nat) (S : CS) (D : CD) (a0 : Nat) (a1 : Int32) : Option (CD × String) := ckK S a0 6 <| thr (f_X6_checkFace F S D a0 a1) (t_X6_checkFace F S D a0 a1) fun _ => none
set_option maxRecDepth 100000 in
set_option maxHeartbeats 4000000 in
theorem tm_X6_sides (l : Launch) (hfl : l.stackTraces = false) (G : cG) (F : Nat) (S : CS) (D D2 : CD) (a0 : Nat) (a1 : Int32) (E : String) (h : t_X6_sides F S D a0 a1 = some (D2, E)) : cMTI l yX6_sides wX6_sides ({ frames := 7, cells := 1, slots := 6, locals := 111 }) G S [.ref a0, .int a1] D D2 E := by
  refine cBodyT (Qc := xQI) (cc := cX6_sides) (maxL := 2) (ret := (some .int)) (own := RX6) (by decide) rfl rfl ?_
  intro sz p e s m below meth c hC hP hX hno
  have hin : ∀ w ∈ WA, w ∈ wX6_sides := fun w h => List.mem_cons_of_mem _ h
  have hC0 := hC
  obtain ⟨hx, hb, -, hts, hown, -, hml, -, -, -⟩ := hC0
  have hS : va_S (cA G S sz) s.heap s.heap [] := va_S.rf
  refine m_entry (Nat.le_of_ble_eq_true rfl) (fun ls hl => ?_)
  have hl : lv_has ls 2 [(0, .ref a0), (1, .int a1)] := hl
  unfold t_X6_sides at h
  refine lv_aload_n hx hb dX6_sides_0 rfl (lv_at hl 0 rfl) ?_
  refine lv_iload_n hx hb dX6_sides_1 rfl (lv_at hl 1 rfl) ?_
  obtain ⟨z1, h⟩ := ckK_el h
  rcases thr_el h with ⟨_, e2, h⟩ | h
  · cases h
  · exact c_TV (As := [.int a1]) (rest := []) hC hP hS hX hno z1.1 (cE_6 z1.2) (C := RX6) (T := TX6) (N := 8) rfl (tm_X6_checkFace l hfl G F S D _ a0 a1 _ h) (cwV 1 hts (gVA (hWCA _ wc_114) (hWCA _ wc_115) (hWCA _ wc_116) (hWCA _ wc_66) (hWCA _ wc_112) (fun w h => h)) rfl rfl rfl (by decide +kernel) ⟨Nat.le_of_ble_eq_true rfl, Nat.le_of_ble_eq_true rfl⟩) rfl hl.1 rfl (Nat.le_of_ble_eq_true rfl) ⟨Nat.le_of_ble_eq_true rfl, Nat.le_of_ble_eq_true rfl⟩ dX6_sides_2

def wX6_firstVertex : List Cond := Cond.code yX6_firstVertex cX6_firstVertex 2 (some .int) :: WA
def t_X6_firstVertex (F : Nat) (S : CS) (D : CD) (a0 : Nat) (a1 : Int32) : Option (CD × String) := ckK S a0 6 <| thr (f_X6_checkFace F S D a0 a1) (t_X6_checkFace F S D a0 a1) fun _ => none
set_option maxRecDepth 100000 in
set_option maxHeartbeats 4000000 in
theorem tm_X6_firstVertex (l : Launch) (hfl : l.stackTraces = false) (G : cG) (F : Nat) (S : CS) (D D2 : CD) (a0 : Nat) (a1 : Int32) (E : String) (h : t_X6_firstVertex F S D a0 a1 = some (D2, E)) : cMTI l yX6_firstVertex wX6_firstVertex ({ frames := 7, cells := 1, slots := 6, locals := 111 }) G S [.ref a0, .int a1] D D2 E := by
  refine cBodyT (Qc := xQI) (cc := cX6_firstVertex) (maxL := 2) (ret := (some .int)) (own := RX6) (by decide) rfl rfl ?_
  intro sz p e s m below meth c hC hP hX hno
  have hin : ∀ w ∈ WA, w ∈ wX6_firstVertex := fun w h => List.mem_cons_of_mem _ h
  have hC0 := hC
  obtain ⟨hx, hb, -, hts, hown, -, hml, -, -, -⟩ := hC0
  have hS : va_S (cA G S sz) s.heap s.heap [] := va_S.rf
  refine m_entry (Nat.le_of_ble_eq_true rfl) (fun ls hl => ?_)
  have hl : lv_has ls 2 [(0, .ref a0), (1, .int a1)] := hl
  unfold t_X6_firstVertex at h
  refine lv_aload_n hx hb dX6_firstVertex_0 rfl (lv_at hl 0 rfl) ?_
  refine lv_iload_n hx hb dX6_firstVertex_1 rfl (lv_at hl 1 rfl) ?_
  obtain ⟨z1, h⟩ := ckK_el h
  rcases thr_el h with ⟨_, e2, h⟩ | h
  · cases h
  · exact c_TV (As := [.int a1]) (rest := []) hC hP hS hX hno z1.1 (cE_6 z1.2) (C := RX6) (T := TX6) (N := 8) rfl (tm_X6_checkFace l hfl G F S D _ a0 a1 _ h) (cwV 1 hts (gVA (hWCA _ wc_114) (hWCA _ wc_115) (hWCA _ wc_116) (hWCA _ wc_66) (hWCA _ wc_112) (fun w h => h)) rfl rfl rfl (by decide +kernel) ⟨Nat.le_of_ble_eq_true rfl, Nat.le_of_ble_eq_true rfl⟩) rfl hl.1 rfl (Nat.le_of_ble_eq_true rfl) ⟨Nat.le_of_ble_eq_true rfl, Nat.le_of_ble_eq_true rfl⟩ dX6_firstVertex_2

def wX6_faceAt : List Cond := Cond.code yX6_faceAt cX6_faceAt 4 (some .int) :: WA
def t_X6_faceAt (F : Nat) (S : CS) (D : CD) (a0 : Nat) (a1 : Int32) (a2 : Int32) : Option (CD × String) := ckK S a0 6 <| thr (f_X6_checkCoordinate F S D a0 a1) (t_X6_checkCoordinate F S D a0 a1) fun _ => thr (f_X6_checkCoordinate F S D a0 a2) (t_X6_checkCoordinate F S D a0 a2) fun _ => none
set_option maxRecDepth 100000 in
set_option maxHeartbeats 4000000 in
theorem tm_X6_faceAt (l : Launch) (hfl : l.stackTraces = false) (G : cG) (F : Nat) (S : CS) (D D2 : CD) (a0 : Nat) (a1 : Int32) (a2 : Int32) (E : String) (h : t_X6_faceAt F S D a0 a1 a2 = some (D2, E)) : cMTI l yX6_faceAt wX6_faceAt ({ frames := 7, cells := 1, slots := 6, locals := 134 }) G S [.ref a0, .int a1, .int a2] D D2 E := by
  refine cBodyT (Qc := xQI) (cc := cX6_faceAt) (maxL := 4) (ret := (some .int)) (own := RX6) (by decide) rfl rfl ?_
  intro sz p e s m below meth c hC hP hX hno
  have hin : ∀ w ∈ WA, w ∈ wX6_faceAt := fun w h => List.mem_cons_of_mem _ h
  have hC0 := hC
  obtain ⟨hx, hb, -, hts, hown, -, hml, -, -, -⟩ := hC0
  have hS : va_S (cA G S sz) s.heap s.heap [] := va_S.rf
  refine m_entry (Nat.le_of_ble_eq_true rfl) (fun ls hl => ?_)
  have hl : lv_has ls 4 [(0, .ref a0), (1, .int a1), (2, .int a2)] := hl
  unfold t_X6_faceAt at h
  refine lv_aload_n hx hb dX6_faceAt_0 rfl (lv_at hl 0 rfl) ?_
  refine lv_iload_n hx hb dX6_faceAt_1 rfl (lv_at hl 1 rfl) ?_
  obtain ⟨z1, h⟩ := ckK_el h
  rcases thr_el h with ⟨_, e2, h⟩ | h
  · refine c_VV (As := [.int a1]) (rest := []) hC hP hS z1.1 (cE_6 z1.2) (C := RX6) (T := TX6) (N := 8) rfl (m_X6_checkCoordinate l G F S D a0 a1 e2) (cwV 1 hts (gVA (hWCA _ wc_170) (hWCA _ wc_171) (hWCA _ wc_172) (hWCA _ wc_66) (hWCA _ wc_118) hWCA) rfl rfl rfl (by decide +kernel) ⟨Nat.le_of_ble_eq_true rfl, Nat.le_of_ble_eq_true rfl⟩) rfl hl.1 rfl (Nat.le_of_ble_eq_true rfl) dX6_faceAt_2 (fun H locs hP hS => ?_)
    refine lv_aload_n hx hb dX6_faceAt_5 rfl (lv_at hl 0 rfl) ?_
    refine lv_iload_n hx hb dX6_faceAt_6 rfl (lv_at hl 2 rfl) ?_
    rcases thr_el h with ⟨_, e3, h⟩ | h
    · cases h
    · exact c_TV (As := [.int a2]) (rest := []) hC hP hS hX hno z1.1 (cE_6 z1.2) (C := RX6) (T := TX6) (N := 8) rfl (tm_X6_checkCoordinate l hfl G F S D _ a0 a2 _ h) (cwV 1 hts (gVA (hWCA _ wc_170) (hWCA _ wc_171) (hWCA _ wc_172) (hWCA _ wc_66) (hWCA _ wc_118) (fun w h => h)) rfl rfl rfl (by decide +kernel) ⟨Nat.le_of_ble_eq_true rfl, Nat.le_of_ble_eq_true rfl⟩) rfl hl.1 rfl (Nat.le_of_ble_eq_true rfl) ⟨Nat.le_of_ble_eq_true rfl, Nat.le_of_ble_eq_true rfl⟩ dX6_faceAt_7
  · exact c_TV (As := [.int a1]) (rest := []) hC hP hS hX hno z1.1 (cE_6 z1.2) (C := RX6) (T := TX6) (N := 8) rfl (tm_X6_checkCoordinate l hfl G F S D _ a0 a1 _ h) (cwV 1 hts (gVA (hWCA _ wc_170) (hWCA _ wc_171) (hWCA _ wc_172) (hWCA _ wc_66) (hWCA _ wc_118) (fun w h => h)) rfl rfl rfl (by decide +kernel) ⟨Nat.le_of_ble_eq_true rfl, Nat.le_of_ble_eq_true rfl⟩) rfl hl.1 rfl (Nat.le_of_ble_eq_true rfl) ⟨Nat.le_of_ble_eq_true rfl, Nat.le_of_ble_eq_true rfl⟩ dX6_faceAt_2

def wX6_crossing : List Cond := Cond.code yX6_crossing cX6_crossing 4 (some .int) :: WA
def t_X6_crossing (F : Nat) (S : CS) (D : CD) (a0 : Nat) (a1 : Int32) : Option (CD × String) := ckK S a0 6 <| thr (f_X6_checkCoordinate F S D a0 a1) (t_X6_checkCoordinate F S D a0 a1) fun _ => none
set_option maxRecDepth 100000 in
set_option maxHeartbeats 4000000 in
theorem tm_X6_crossing (l : Launch) (hfl : l.stackTraces = false) (G : cG) (F : Nat) (S : CS) (D D2 : CD) (a0 : Nat) (a1 : Int32) (E : String) (h : t_X6_crossing F S D a0 a1 = some (D2, E)) : cMTI l yX6_crossing wX6_crossing ({ frames := 7, cells := 1, slots := 6, locals := 111 }) G S [.ref a0, .int a1] D D2 E := by
  refine cBodyT (Qc := xQI) (cc := cX6_crossing) (maxL := 4) (ret := (some .int)) (own := RX6) (by decide) rfl rfl ?_
  intro sz p e s m below meth c hC hP hX hno
  have hin : ∀ w ∈ WA, w ∈ wX6_crossing := fun w h => List.mem_cons_of_mem _ h
  have hC0 := hC
  obtain ⟨hx, hb, -, hts, hown, -, hml, -, -, -⟩ := hC0
  have hS : va_S (cA G S sz) s.heap s.heap [] := va_S.rf
  refine m_entry (Nat.le_of_ble_eq_true rfl) (fun ls hl => ?_)
  have hl : lv_has ls 4 [(0, .ref a0), (1, .int a1)] := hl
  unfold t_X6_crossing at h
  refine lv_aload_n hx hb dX6_crossing_0 rfl (lv_at hl 0 rfl) ?_
  refine lv_iload_n hx hb dX6_crossing_1 rfl (lv_at hl 1 rfl) ?_
  obtain ⟨z1, h⟩ := ckK_el h
  rcases thr_el h with ⟨_, e2, h⟩ | h
  · cases h
  · exact c_TV (As := [.int a1]) (rest := []) hC hP hS hX hno z1.1 (cE_6 z1.2) (C := RX6) (T := TX6) (N := 8) rfl (tm_X6_checkCoordinate l hfl G F S D _ a0 a1 _ h) (cwV 1 hts (gVA (hWCA _ wc_170) (hWCA _ wc_171) (hWCA _ wc_172) (hWCA _ wc_66) (hWCA _ wc_118) (fun w h => h)) rfl rfl rfl (by decide +kernel) ⟨Nat.le_of_ble_eq_true rfl, Nat.le_of_ble_eq_true rfl⟩) rfl hl.1 rfl (Nat.le_of_ble_eq_true rfl) ⟨Nat.le_of_ble_eq_true rfl, Nat.le_of_ble_eq_true rfl⟩ dX6_crossing_2

def t_X6_crossingAt_b48 (F : Nat) (S : CS) (a0 : Nat) (k7 : CD → Int32 → Int32 → Int32 → Option (CD × String)) (D : CD) (x1 : Int32) (x2 : Int32) (x3 : Int32) : Option (CD × String) := k7 D x1 x2 (x3 + 1)
def t_X6_crossingAt_L7 (F : Nat) (S : CS) (a0 : Nat) : Nat → CD → Int32 → Int32 → Int32 → Option (CD × String)
  | 0, _, _, _, _ => none
  | n7 + 1, D, x1, x2, x3 => ckK S a0 6 <| cal (S.2.2.1 a0 0) fun p2 => ckK S p2 7 <| cal (f_Jx4a65c_size_8abf5 F S D p2) fun t6 => (if t6 ≤ x3 then some (D, "java/lang/IndexOutOfBoundsException") else cal (S.2.2.1 a0 0) fun p8 => ckK S p8 7 <| cal (f_Jx4a65c_get_915e3 F S D p8 x3) fun t12 => ckK S t12 4 <| cal (f_X4_spans F S D t12 x1) fun t15 => (if t15 = 0 then t_X6_crossingAt_b48 F S a0 ((t_X6_crossingAt_L7 F S a0 n7)) D x1 x2 x3 else caM (f_X6_placeAt F S D a0 x1 x3) fun D18 t19 => (if t19 = x2 then none else t_X6_crossingAt_b48 F S a0 ((t_X6_crossingAt_L7 F S a0 n7)) D18 x1 x2 x3)))
def t_X6_crossingAt (F : Nat) (S : CS) (D : CD) (a0 : Nat) (a1 : Int32) (a2 : Int32) : Option (CD × String) := ckK S a0 6 <| thr (f_X6_checkCoordinate F S D a0 a1) (t_X6_checkCoordinate F S D a0 a1) fun _ => t_X6_crossingAt_L7 F S a0 F D a1 a2 0
set_option maxRecDepth 100000 in
set_option maxHeartbeats 4000000 in
theorem tm_X6_crossingAt (l : Launch) (hfl : l.stackTraces = false) (G : cG) (F : Nat) (S : CS) (D D2 : CD) (a0 : Nat) (a1 : Int32) (a2 : Int32) (E : String) (h : t_X6_crossingAt F S D a0 a1 a2 = some (D2, E)) : cMTI l yX6_crossingAt wX6_crossingAt ({ frames := 7, cells := 1, slots := 6, locals := 136 }) G S [.ref a0, .int a1, .int a2] D D2 E := by
  refine cBodyT (Qc := xQI) (cc := cX6_crossingAt) (maxL := 4) (ret := (some .int)) (own := RX6) (by decide) rfl rfl ?_
  intro sz p e s m below meth c hC hP hX hno
  have hin : ∀ w ∈ WA, w ∈ wX6_crossingAt := fun w h => List.mem_cons_of_mem _ h
  have hC0 := hC
  obtain ⟨hx, hb, -, hts, hown, -, hml, -, -, -⟩ := hC0
  have hS : va_S (cA G S sz) s.heap s.heap [] := va_S.rf
  have hin_X6 : ∀ w ∈ wsX60, w ∈ wX6_crossingAt := fun w h => List.mem_cons_of_mem _ (hWCA _ (hWC6 w h))
  have fl_X6_lines := hts _ (List.mem_cons_of_mem _ (hWCA _ wc_3))
  have cl_X4 := hts _ (List.mem_cons_of_mem _ (hWCA _ wc_24))
  have L7 : ∀ (n7 : Nat) (H : Heap) (locs : List Loc) (ls : Array Slot) (D : CD) (x1 : Int32) (x2 : Int32) (x3 : Int32), va_P G.1 vwCl (cW G S D) H → va_S (cA G S sz) s.heap H locs → lv_has ls 4 [(0, .ref a0), (1, .int x1), (2, .int x2), (3, .int x3)] → t_X6_crossingAt_L7 F S a0 n7 D x1 x2 x3 = some (D2, E) → W p l e (headSpec wX6_crossingAt ({ frames := 7, cells := 1, slots := 6, locals := 136 })).room s m ([.ref a0, .int a1, .int a2] : List Value).toArray below meth c H locs 0 0 (vx_MQ below xQI (xX G S D2 E sz) ([.ref a0, .int a1, .int a2] : List Value).toArray s 1 6 (cA G S sz)) (F0 m 7 ls []) := by
    intro n7
    induction n7 with
    | zero =>
      intro H locs ls D x1 x2 x3 hP hS hl h
      rw [t_X6_crossingAt_L7] at h; cases h
    | succ n7 ih7 =>
      have b48 : ∀ (H : Heap) (locs : List Loc) (ls : Array Slot) (D : CD) (x1 : Int32) (x2 : Int32) (x3 : Int32), va_P G.1 vwCl (cW G S D) H → va_S (cA G S sz) s.heap H locs → lv_has ls 4 [(0, .ref a0), (1, .int x1), (2, .int x2), (3, .int x3)] → t_X6_crossingAt_b48 F S a0 ((t_X6_crossingAt_L7 F S a0 n7)) D x1 x2 x3 = some (D2, E) → W p l e (headSpec wX6_crossingAt ({ frames := 7, cells := 1, slots := 6, locals := 136 })).room s m ([.ref a0, .int a1, .int a2] : List Value).toArray below meth c H locs 0 0 (vx_MQ below xQI (xX G S D2 E sz) ([.ref a0, .int a1, .int a2] : List Value).toArray s 1 6 (cA G S sz)) (F0 m 48 ls []) := by
        intro H locs ls D x1 x2 x3 hP hS hl h
        unfold t_X6_crossingAt_b48 at h
        refine lv_iinc (v := x3 + 1) (lv' := [(3, .int (x3 + 1)), (0, .ref a0), (1, .int x1), (2, .int x2)]) hx hb dX6_crossingAt_48 hl (k := 3) rfl rfl (by decide) rfl (fun ls hl => ?_)
        refine lv_goto (tgt := 7) hx hb dX6_crossingAt_51 (by decide) ?_
        exact ih7 _ _ _ D x1 x2 (x3 + 1) hP hS (lv_sub hl [1, 2, 3, 0] rfl) h
      intro H locs ls D x1 x2 x3 hP hS hl h
      rw [t_X6_crossingAt_L7] at h
      refine lv_iload_n hx hb dX6_crossingAt_7 rfl (lv_at hl 3 rfl) ?_
      refine lv_aload_n hx hb dX6_crossingAt_8 rfl (lv_at hl 0 rfl) ?_
      obtain ⟨z1, h⟩ := ckK_el h
      obtain ⟨p2, e3, h⟩ := cal_el h
      refine c_get (C := RX6) (T := TX6) (N := 8) (ref := "SegmentMap") (ci := 7) (v := .ref p2) hC hin_X6 hP z1.1 (cE_6 z1.2) rfl 0 (by decide) fl_X6_lines rfl (by show some (va_rf (S.2.2.1 a0 0)) = _; rw [e3]; rfl) dX6_crossingAt_9 ?_
      obtain ⟨z4, h⟩ := ckK_el h
      obtain ⟨t6, e5, h⟩ := cal_el h
      refine c_VI (As := []) (rest := [.int x3]) hC hP hS z4.1 (cE_7 z4.2) (C := RJx4a65c) (T := TJx4a65c) (N := 3) rfl (m_Jx4a65c_size_8abf5 l G F S D p2 t6 e5) (cwV 0 hts (gVA (hWCA _ wc_4) (hWCA _ wc_5) (hWCA _ wc_6) (hWCA _ wc_7) (hWCA _ wc_0) hWCA) rfl rfl rfl (by decide +kernel) ⟨Nat.le_of_ble_eq_true rfl, Nat.le_of_ble_eq_true rfl⟩) rfl hl.1 rfl (Nat.le_of_ble_eq_true rfl) dX6_crossingAt_12 (fun H locs hP hS => ?_)
      refine lv_icmp_ge (tgt := 54) hx hb dX6_crossingAt_15 (by decide) (fun u7 => ?_) (fun u7 => ?_)
      · have h := ite_t u7 h
        cases h
        exact c_throw hfl hC hP hS hX hno hin xk_194 (text := "no such place") (by decide +kernel) hl.1 (by exact ⟨Nat.le_of_ble_eq_true rfl, Nat.le_of_ble_eq_true rfl, Nat.le_of_ble_eq_true rfl, Nat.le_of_ble_eq_true rfl⟩) dX6_crossingAt_54 dX6_crossingAt_57 dX6_crossingAt_58 dX6_crossingAt_60 dX6_crossingAt_63
      · have h := ite_f u7 h
        refine lv_aload_n hx hb dX6_crossingAt_18 rfl (lv_at hl 0 rfl) ?_
        obtain ⟨p8, e9, h⟩ := cal_el h
        refine c_get (C := RX6) (T := TX6) (N := 8) (ref := "SegmentMap") (ci := 7) (v := .ref p8) hC hin_X6 hP z1.1 (cE_6 z1.2) rfl 0 (by decide) fl_X6_lines rfl (by show some (va_rf (S.2.2.1 a0 0)) = _; rw [e9]; rfl) dX6_crossingAt_19 ?_
        refine lv_iload_n hx hb dX6_crossingAt_22 rfl (lv_at hl 3 rfl) ?_
        obtain ⟨z10, h⟩ := ckK_el h
        obtain ⟨t12, e11, h⟩ := cal_el h
        refine c_VA (As := [.int x3]) (rest := []) hC hP hS z10.1 (cE_7 z10.2) (C := RJx4a65c) (T := TJx4a65c) (N := 3) rfl (m_Jx4a65c_get_915e3 l G F S D p8 x3 t12 e11) (cwV 1 hts (gVA (hWCA _ wc_26) (hWCA _ wc_27) (hWCA _ wc_28) (hWCA _ wc_7) (hWCA _ wc_16) hWCA) rfl rfl rfl (by decide +kernel) ⟨Nat.le_of_ble_eq_true rfl, Nat.le_of_ble_eq_true rfl⟩) rfl hl.1 rfl (Nat.le_of_ble_eq_true rfl) dX6_crossingAt_23 (fun H locs hP hS => ?_)
        obtain ⟨z13, h⟩ := ckK_el h
        refine c_cast (C := RX4) (T := TX4) (N := 6) (ci := 5) hC hP z13.1 (cE_4 z13.2) rfl cl_X4 dX6_crossingAt_26 ?_
        refine lv_iload_n hx hb dX6_crossingAt_29 rfl (lv_at hl 1 rfl) ?_
        obtain ⟨t15, e14, h⟩ := cal_el h
        refine c_VI (As := [.int x1]) (rest := []) hC hP hS z13.1 (cE_4 z13.2) (C := RX4) (T := TX4) (N := 6) rfl (m_X4_spans l G F S D t12 x1 t15 e14) (cwV 1 hts (gVA (hWCA _ wc_184) (hWCA _ wc_185) (hWCA _ wc_186) (hWCA _ wc_48) (hWCA _ wc_182) hWCA) rfl rfl rfl (by decide +kernel) ⟨Nat.le_of_ble_eq_true rfl, Nat.le_of_ble_eq_true rfl⟩) rfl hl.1 rfl (Nat.le_of_ble_eq_true rfl) dX6_crossingAt_30 (fun H locs hP hS => ?_)
        refine lv_if_eq (tgt := 48) hx hb dX6_crossingAt_33 (by decide) (fun u16 => ?_) (fun u16 => ?_)
        · have h := ite_t u16 h
          exact b48 _ _ _ D x1 x2 x3 hP hS (lv_sub hl [0, 1, 2, 3] rfl) h
        · have h := ite_f u16 h
          refine lv_aload_n hx hb dX6_crossingAt_36 rfl (lv_at hl 0 rfl) ?_
          refine lv_iload_n hx hb dX6_crossingAt_37 rfl (lv_at hl 1 rfl) ?_
          refine lv_iload_n hx hb dX6_crossingAt_38 rfl (lv_at hl 3 rfl) ?_
          obtain ⟨D18, t19, e17, h⟩ := caM_el h
          refine c_VI (As := [.int x1, .int x3]) (rest := []) hC hP hS z1.1 (cE_6 z1.2) (C := RX6) (T := TX6) (N := 8) rfl (m_X6_placeAt l G F S D D18 a0 x1 x3 t19 e17) (cwV 2 hts (gVA wa_135 wa_136 wa_137 (hWCA _ wc_66) (hWCA _ wc_188) hWCA) rfl rfl rfl (by decide +kernel) ⟨Nat.le_of_ble_eq_true rfl, Nat.le_of_ble_eq_true rfl⟩) rfl hl.1 rfl (Nat.le_of_ble_eq_true rfl) dX6_crossingAt_39 (fun H locs hP hS => ?_)
          refine lv_iload_n hx hb dX6_crossingAt_42 rfl (lv_at hl 2 rfl) ?_
          refine lv_icmp_ne (tgt := 48) hx hb dX6_crossingAt_43 (by decide) (fun u20 => ?_) (fun u20 => ?_)
          · have h := ite_f u20 h
            exact b48 _ _ _ D18 x1 x2 x3 hP hS (lv_sub hl [0, 1, 2, 3] rfl) h
          · have h := ite_t u20 h
            cases h
  refine m_entry (Nat.le_of_ble_eq_true rfl) (fun ls hl => ?_)
  have hl : lv_has ls 4 [(0, .ref a0), (1, .int a1), (2, .int a2)] := hl
  unfold t_X6_crossingAt at h
  refine lv_aload_n hx hb dX6_crossingAt_0 rfl (lv_at hl 0 rfl) ?_
  refine lv_iload_n hx hb dX6_crossingAt_1 rfl (lv_at hl 1 rfl) ?_
  obtain ⟨z1, h⟩ := ckK_el h
  rcases thr_el h with ⟨_, e2, h⟩ | h
  · refine c_VV (As := [.int a1]) (rest := []) hC hP hS z1.1 (cE_6 z1.2) (C := RX6) (T := TX6) (N := 8) rfl (m_X6_checkCoordinate l G F S D a0 a1 e2) (cwV 1 hts (gVA (hWCA _ wc_170) (hWCA _ wc_171) (hWCA _ wc_172) (hWCA _ wc_66) (hWCA _ wc_118) hWCA) rfl rfl rfl (by decide +kernel) ⟨Nat.le_of_ble_eq_true rfl, Nat.le_of_ble_eq_true rfl⟩) rfl hl.1 rfl (Nat.le_of_ble_eq_true rfl) dX6_crossingAt_2 (fun H locs hP hS => ?_)
    refine lv_iconst (v := 0) hx hb dX6_crossingAt_5 (by decide) ?_
    refine lv_istore_n (lv' := [(3, .int 0), (0, .ref a0), (1, .int a1), (2, .int a2)]) hx hb dX6_crossingAt_6 rfl hl (by decide) rfl (fun ls hl => ?_)
    exact L7 F _ _ _ D a1 a2 0 hP hS (lv_sub hl [1, 2, 3, 0] rfl) h
  · exact c_TV (As := [.int a1]) (rest := []) hC hP hS hX hno z1.1 (cE_6 z1.2) (C := RX6) (T := TX6) (N := 8) rfl (tm_X6_checkCoordinate l hfl G F S D _ a0 a1 _ h) (cwV 1 hts (gVA (hWCA _ wc_170) (hWCA _ wc_171) (hWCA _ wc_172) (hWCA _ wc_66) (hWCA _ wc_118) (fun w h => h)) rfl rfl rfl (by decide +kernel) ⟨Nat.le_of_ble_eq_true rfl, Nat.le_of_ble_eq_true rfl⟩) rfl hl.1 rfl (Nat.le_of_ble_eq_true rfl) ⟨Nat.le_of_ble_eq_true rfl, Nat.le_of_ble_eq_true rfl⟩ dX6_crossingAt_2

theorem dX6_add_0 : decode cX6_add 0 = .ok (.aload_n 0, 1) := by decide +kernel
theorem dX6_add_1 : decode cX6_add 1 = .ok (.iload_n 1, 1) := by decide +kernel
theorem dX6_add_2 : decode cX6_add 2 = .ok (.invokevirtual 65, 3) := by decide +kernel
theorem dX6_add_5 : decode cX6_add 5 = .ok (.aload_n 0, 1) := by decide +kernel
theorem dX6_add_6 : decode cX6_add 6 = .ok (.iload_n 2, 1) := by decide +kernel
theorem dX6_add_7 : decode cX6_add 7 = .ok (.invokevirtual 65, 3) := by decide +kernel
theorem dX6_add_10 : decode cX6_add 10 = .ok (.aload_n 0, 1) := by decide +kernel
theorem dX6_add_11 : decode cX6_add 11 = .ok (.iload_n 3, 1) := by decide +kernel
theorem dX6_add_12 : decode cX6_add 12 = .ok (.invokevirtual 65, 3) := by decide +kernel
theorem dX6_add_15 : decode cX6_add 15 = .ok (.aload_n 0, 1) := by decide +kernel
theorem dX6_add_16 : decode cX6_add 16 = .ok (.iload 4, 2) := by decide +kernel
theorem dX6_add_18 : decode cX6_add 18 = .ok (.invokevirtual 65, 3) := by decide +kernel
theorem dX6_add_21 : decode cX6_add 21 = .ok (.iload_n 1, 1) := by decide +kernel
theorem dX6_add_22 : decode cX6_add 22 = .ok (.iload_n 3, 1) := by decide +kernel
theorem dX6_add_23 : decode cX6_add 23 = .ok (.if_icmp .ne 19, 3) := by decide +kernel
theorem dX6_add_26 : decode cX6_add 26 = .ok (.iload_n 2, 1) := by decide +kernel
theorem dX6_add_27 : decode cX6_add 27 = .ok (.iload 4, 2) := by decide +kernel
theorem dX6_add_29 : decode cX6_add 29 = .ok (.if_icmp .ne 13, 3) := by decide +kernel
theorem dX6_add_32 : decode cX6_add 32 = .ok (.new 68, 3) := by decide +kernel
theorem dX6_add_35 : decode cX6_add 35 = .ok (.dup, 1) := by decide +kernel
theorem dX6_add_36 : decode cX6_add 36 = .ok (.ldc 70, 2) := by decide +kernel
theorem dX6_add_38 : decode cX6_add 38 = .ok (.invokespecial 72, 3) := by decide +kernel
theorem dX6_add_41 : decode cX6_add 41 = .ok (.athrow, 1) := by decide +kernel
theorem dX6_add_42 : decode cX6_add 42 = .ok (.aload_n 0, 1) := by decide +kernel
theorem dX6_add_43 : decode cX6_add 43 = .ok (.getfield 12, 3) := by decide +kernel
theorem dX6_add_46 : decode cX6_add 46 = .ok (.invokevirtual 75, 3) := by decide +kernel
theorem dX6_add_49 : decode cX6_add 49 = .ok (.bipush 12, 2) := by decide +kernel
theorem dX6_add_51 : decode cX6_add 51 = .ok (.if_icmp .lt 13, 3) := by decide +kernel
theorem dX6_add_54 : decode cX6_add 54 = .ok (.new 79, 3) := by decide +kernel
theorem dX6_add_57 : decode cX6_add 57 = .ok (.dup, 1) := by decide +kernel
theorem dX6_add_58 : decode cX6_add 58 = .ok (.ldc 81, 2) := by decide +kernel
theorem dX6_add_60 : decode cX6_add 60 = .ok (.invokespecial 83, 3) := by decide +kernel
theorem dX6_add_63 : decode cX6_add 63 = .ok (.athrow, 1) := by decide +kernel
theorem dX6_add_64 : decode cX6_add 64 = .ok (.new 16, 3) := by decide +kernel
theorem dX6_add_67 : decode cX6_add 67 = .ok (.dup, 1) := by decide +kernel
theorem dX6_add_68 : decode cX6_add 68 = .ok (.iload_n 1, 1) := by decide +kernel
theorem dX6_add_69 : decode cX6_add 69 = .ok (.iload_n 2, 1) := by decide +kernel
theorem dX6_add_70 : decode cX6_add 70 = .ok (.iload_n 3, 1) := by decide +kernel
theorem dX6_add_71 : decode cX6_add 71 = .ok (.iload 4, 2) := by decide +kernel
theorem dX6_add_73 : decode cX6_add 73 = .ok (.invokespecial 18, 3) := by decide +kernel
theorem dX6_add_76 : decode cX6_add 76 = .ok (.astore 5, 2) := by decide +kernel
theorem dX6_add_78 : decode cX6_add 78 = .ok (.aload_n 0, 1) := by decide +kernel
theorem dX6_add_79 : decode cX6_add 79 = .ok (.aload 5, 2) := by decide +kernel
theorem dX6_add_81 : decode cX6_add 81 = .ok (.invokevirtual 84, 3) := by decide +kernel
theorem dX6_add_84 : decode cX6_add 84 = .ok (.ifCond .eq 13, 3) := by decide +kernel
theorem dX6_add_87 : decode cX6_add 87 = .ok (.new 79, 3) := by decide +kernel
theorem dX6_add_90 : decode cX6_add 90 = .ok (.dup, 1) := by decide +kernel
theorem dX6_add_91 : decode cX6_add 91 = .ok (.ldc 88, 2) := by decide +kernel
theorem dX6_add_93 : decode cX6_add 93 = .ok (.invokespecial 83, 3) := by decide +kernel
theorem dX6_add_96 : decode cX6_add 96 = .ok (.athrow, 1) := by decide +kernel
theorem dX6_add_97 : decode cX6_add 97 = .ok (.aload_n 0, 1) := by decide +kernel
theorem dX6_add_98 : decode cX6_add 98 = .ok (.getfield 12, 3) := by decide +kernel
theorem dX6_add_101 : decode cX6_add 101 = .ok (.aload 5, 2) := by decide +kernel
theorem dX6_add_103 : decode cX6_add 103 = .ok (.invokevirtual 90, 3) := by decide +kernel
theorem dX6_add_106 : decode cX6_add 106 = .ok (.pop, 1) := by decide +kernel
theorem dX6_add_107 : decode cX6_add 107 = .ok (.aload_n 0, 1) := by decide +kernel
theorem dX6_add_108 : decode cX6_add 108 = .ok (.invokevirtual 62, 3) := by decide +kernel
theorem dX6_add_111 : decode cX6_add 111 = .ok (.aload_n 0, 1) := by decide +kernel
theorem dX6_add_112 : decode cX6_add 112 = .ok (.getfield 12, 3) := by decide +kernel
theorem dX6_add_115 : decode cX6_add 115 = .ok (.invokevirtual 75, 3) := by decide +kernel
theorem dX6_add_118 : decode cX6_add 118 = .ok (.iconst 1, 1) := by decide +kernel
theorem dX6_add_119 : decode cX6_add 119 = .ok (.isub, 1) := by decide +kernel
theorem dX6_add_120 : decode cX6_add 120 = .ok (.ireturn, 1) := by decide +kernel
def wX6_add : List Cond := Cond.code yX6_add cX6_add 6 (some .int) :: WA
def t_X6_add_b42 (F : Nat) (S : CS) (a0 : Nat) (D : CD) : Option (CD × String) := ckK S a0 6 <| cal (S.2.2.1 a0 0) fun p2 => ckK S p2 7 <| cal (f_Jx4a65c_size_8abf5 F S D p2) fun t6 => (if t6 < 12 then none else some (D, "java/lang/IllegalStateException"))
def t_X6_add (F : Nat) (S : CS) (D : CD) (a0 : Nat) (a1 : Int32) (a2 : Int32) (a3 : Int32) (a4 : Int32) : Option (CD × String) := ckK S a0 6 <| thr (f_X6_checkCoordinate F S D a0 a1) (t_X6_checkCoordinate F S D a0 a1) fun _ => thr (f_X6_checkCoordinate F S D a0 a2) (t_X6_checkCoordinate F S D a0 a2) fun _ => thr (f_X6_checkCoordinate F S D a0 a3) (t_X6_checkCoordinate F S D a0 a3) fun _ => thr (f_X6_checkCoordinate F S D a0 a4) (t_X6_checkCoordinate F S D a0 a4) fun _ => (if a1 = a3 then (if a2 = a4 then some (D, "java/lang/IllegalArgumentException") else t_X6_add_b42 F S a0 D ) else t_X6_add_b42 F S a0 D )
set_option maxRecDepth 100000 in
set_option maxHeartbeats 4000000 in
theorem tm_X6_add (l : Launch) (hfl : l.stackTraces = false) (G : cG) (F : Nat) (S : CS) (D D2 : CD) (a0 : Nat) (a1 : Int32) (a2 : Int32) (a3 : Int32) (a4 : Int32) (E : String) (h : t_X6_add F S D a0 a1 a2 a3 a4 = some (D2, E)) : cMTI l yX6_add wX6_add ({ frames := 7, cells := 1, slots := 6, locals := 111 }) G S [.ref a0, .int a1, .int a2, .int a3, .int a4] D D2 E := by
  refine cBodyT (Qc := xQI) (cc := cX6_add) (maxL := 6) (ret := (some .int)) (own := RX6) (by decide) rfl rfl ?_
  intro sz p e s m below meth c hC hP hX hno
  have hin : ∀ w ∈ WA, w ∈ wX6_add := fun w h => List.mem_cons_of_mem _ h
  have hC0 := hC
  obtain ⟨hx, hb, -, hts, hown, -, hml, -, -, -⟩ := hC0
  have hS : va_S (cA G S sz) s.heap s.heap [] := va_S.rf
  have hin_X6 : ∀ w ∈ wsX60, w ∈ wX6_add := fun w h => List.mem_cons_of_mem _ (hWCA _ (hWC6 w h))
  have fl_X6_lines := hts _ (List.mem_cons_of_mem _ (hWCA _ wc_3))
  have b42 : ∀ (H : Heap) (locs : List Loc) (ls : Array Slot) (D : CD), va_P G.1 vwCl (cW G S D) H → va_S (cA G S sz) s.heap H locs → lv_has ls 6 [(0, .ref a0)] → t_X6_add_b42 F S a0 D = some (D2, E) → W p l e (headSpec wX6_add ({ frames := 7, cells := 1, slots := 6, locals := 111 })).room s m ([.ref a0, .int a1, .int a2, .int a3, .int a4] : List Value).toArray below meth c H locs 0 0 (vx_MQ below xQI (xX G S D2 E sz) ([.ref a0, .int a1, .int a2, .int a3, .int a4] : List Value).toArray s 1 6 (cA G S sz)) (F0 m 42 ls []) := by
    intro H locs ls D hP hS hl h
    unfold t_X6_add_b42 at h
    refine lv_aload_n hx hb dX6_add_42 rfl (lv_at hl 0 rfl) ?_
    obtain ⟨z1, h⟩ := ckK_el h
    obtain ⟨p2, e3, h⟩ := cal_el h
    refine c_get (C := RX6) (T := TX6) (N := 8) (ref := "SegmentMap") (ci := 7) (v := .ref p2) hC hin_X6 hP z1.1 (cE_6 z1.2) rfl 0 (by decide) fl_X6_lines rfl (by show some (va_rf (S.2.2.1 a0 0)) = _; rw [e3]; rfl) dX6_add_43 ?_
    obtain ⟨z4, h⟩ := ckK_el h
    obtain ⟨t6, e5, h⟩ := cal_el h
    refine c_VI (As := []) (rest := []) hC hP hS z4.1 (cE_7 z4.2) (C := RJx4a65c) (T := TJx4a65c) (N := 3) rfl (m_Jx4a65c_size_8abf5 l G F S D p2 t6 e5) (cwV 0 hts (gVA (hWCA _ wc_4) (hWCA _ wc_5) (hWCA _ wc_6) (hWCA _ wc_7) (hWCA _ wc_0) hWCA) rfl rfl rfl (by decide +kernel) ⟨Nat.le_of_ble_eq_true rfl, Nat.le_of_ble_eq_true rfl⟩) rfl hl.1 rfl (Nat.le_of_ble_eq_true rfl) dX6_add_46 (fun H locs hP hS => ?_)
    refine lv_bipush (v := 12) hx hb dX6_add_49 (by decide) ?_
    refine lv_icmp_lt (tgt := 64) hx hb dX6_add_51 (by decide) (fun u7 => ?_) (fun u7 => ?_)
    · have h := ite_t u7 h
      cases h
    · have h := ite_f u7 h
      cases h
      exact c_throw hfl hC hP hS hX hno hin xk_83 (text := "there are 12 segments") (by decide +kernel) hl.1 (by exact ⟨Nat.le_of_ble_eq_true rfl, Nat.le_of_ble_eq_true rfl, Nat.le_of_ble_eq_true rfl, Nat.le_of_ble_eq_true rfl⟩) dX6_add_54 dX6_add_57 dX6_add_58 dX6_add_60 dX6_add_63
  refine m_entry (Nat.le_of_ble_eq_true rfl) (fun ls hl => ?_)
  have hl : lv_has ls 6 [(0, .ref a0), (1, .int a1), (2, .int a2), (3, .int a3), (4, .int a4)] := hl
  unfold t_X6_add at h
  refine lv_aload_n hx hb dX6_add_0 rfl (lv_at hl 0 rfl) ?_
  refine lv_iload_n hx hb dX6_add_1 rfl (lv_at hl 1 rfl) ?_
  obtain ⟨z1, h⟩ := ckK_el h
  rcases thr_el h with ⟨_, e2, h⟩ | h
  · refine c_VV (As := [.int a1]) (rest := []) hC hP hS z1.1 (cE_6 z1.2) (C := RX6) (T := TX6) (N := 8) rfl (m_X6_checkCoordinate l G F S D a0 a1 e2) (cwV 1 hts (gVA (hWCA _ wc_170) (hWCA _ wc_171) (hWCA _ wc_172) (hWCA _ wc_66) (hWCA _ wc_118) hWCA) rfl rfl rfl (by decide +kernel) ⟨Nat.le_of_ble_eq_true rfl, Nat.le_of_ble_eq_true rfl⟩) rfl hl.1 rfl (Nat.le_of_ble_eq_true rfl) dX6_add_2 (fun H locs hP hS => ?_)
    refine lv_aload_n hx hb dX6_add_5 rfl (lv_at hl 0 rfl) ?_
    refine lv_iload_n hx hb dX6_add_6 rfl (lv_at hl 2 rfl) ?_
    rcases thr_el h with ⟨_, e3, h⟩ | h
    · refine c_VV (As := [.int a2]) (rest := []) hC hP hS z1.1 (cE_6 z1.2) (C := RX6) (T := TX6) (N := 8) rfl (m_X6_checkCoordinate l G F S D a0 a2 e3) (cwV 1 hts (gVA (hWCA _ wc_170) (hWCA _ wc_171) (hWCA _ wc_172) (hWCA _ wc_66) (hWCA _ wc_118) hWCA) rfl rfl rfl (by decide +kernel) ⟨Nat.le_of_ble_eq_true rfl, Nat.le_of_ble_eq_true rfl⟩) rfl hl.1 rfl (Nat.le_of_ble_eq_true rfl) dX6_add_7 (fun H locs hP hS => ?_)
      refine lv_aload_n hx hb dX6_add_10 rfl (lv_at hl 0 rfl) ?_
      refine lv_iload_n hx hb dX6_add_11 rfl (lv_at hl 3 rfl) ?_
      rcases thr_el h with ⟨_, e4, h⟩ | h
      · refine c_VV (As := [.int a3]) (rest := []) hC hP hS z1.1 (cE_6 z1.2) (C := RX6) (T := TX6) (N := 8) rfl (m_X6_checkCoordinate l G F S D a0 a3 e4) (cwV 1 hts (gVA (hWCA _ wc_170) (hWCA _ wc_171) (hWCA _ wc_172) (hWCA _ wc_66) (hWCA _ wc_118) hWCA) rfl rfl rfl (by decide +kernel) ⟨Nat.le_of_ble_eq_true rfl, Nat.le_of_ble_eq_true rfl⟩) rfl hl.1 rfl (Nat.le_of_ble_eq_true rfl) dX6_add_12 (fun H locs hP hS => ?_)
        refine lv_aload_n hx hb dX6_add_15 rfl (lv_at hl 0 rfl) ?_
        refine lv_iload hx hb dX6_add_16 (lv_at hl 4 rfl) ?_
        rcases thr_el h with ⟨_, e5, h⟩ | h
        · refine c_VV (As := [.int a4]) (rest := []) hC hP hS z1.1 (cE_6 z1.2) (C := RX6) (T := TX6) (N := 8) rfl (m_X6_checkCoordinate l G F S D a0 a4 e5) (cwV 1 hts (gVA (hWCA _ wc_170) (hWCA _ wc_171) (hWCA _ wc_172) (hWCA _ wc_66) (hWCA _ wc_118) hWCA) rfl rfl rfl (by decide +kernel) ⟨Nat.le_of_ble_eq_true rfl, Nat.le_of_ble_eq_true rfl⟩) rfl hl.1 rfl (Nat.le_of_ble_eq_true rfl) dX6_add_18 (fun H locs hP hS => ?_)
          refine lv_iload_n hx hb dX6_add_21 rfl (lv_at hl 1 rfl) ?_
          refine lv_iload_n hx hb dX6_add_22 rfl (lv_at hl 3 rfl) ?_
          refine lv_icmp_ne (tgt := 42) hx hb dX6_add_23 (by decide) (fun u6 => ?_) (fun u6 => ?_)
          · have h := ite_f u6 h
            exact b42 _ _ _ D hP hS (lv_sub hl [0] rfl) h
          · have h := ite_t u6 h
            refine lv_iload_n hx hb dX6_add_26 rfl (lv_at hl 2 rfl) ?_
            refine lv_iload hx hb dX6_add_27 (lv_at hl 4 rfl) ?_
            refine lv_icmp_ne (tgt := 42) hx hb dX6_add_29 (by decide) (fun u7 => ?_) (fun u7 => ?_)
            · have h := ite_f u7 h
              exact b42 _ _ _ D hP hS (lv_sub hl [0] rfl) h
            · have h := ite_t u7 h
              cases h
              exact c_throw hfl hC hP hS hX hno hin xk_72 (text := "both ends are the same point") (by decide +kernel) hl.1 (by exact ⟨Nat.le_of_ble_eq_true rfl, Nat.le_of_ble_eq_true rfl, Nat.le_of_ble_eq_true rfl, Nat.le_of_ble_eq_true rfl⟩) dX6_add_32 dX6_add_35 dX6_add_36 dX6_add_38 dX6_add_41
        · exact c_TV (As := [.int a4]) (rest := []) hC hP hS hX hno z1.1 (cE_6 z1.2) (C := RX6) (T := TX6) (N := 8) rfl (tm_X6_checkCoordinate l hfl G F S D _ a0 a4 _ h) (cwV 1 hts (gVA (hWCA _ wc_170) (hWCA _ wc_171) (hWCA _ wc_172) (hWCA _ wc_66) (hWCA _ wc_118) (fun w h => h)) rfl rfl rfl (by decide +kernel) ⟨Nat.le_of_ble_eq_true rfl, Nat.le_of_ble_eq_true rfl⟩) rfl hl.1 rfl (Nat.le_of_ble_eq_true rfl) ⟨Nat.le_of_ble_eq_true rfl, Nat.le_of_ble_eq_true rfl⟩ dX6_add_18
      · exact c_TV (As := [.int a3]) (rest := []) hC hP hS hX hno z1.1 (cE_6 z1.2) (C := RX6) (T := TX6) (N := 8) rfl (tm_X6_checkCoordinate l hfl G F S D _ a0 a3 _ h) (cwV 1 hts (gVA (hWCA _ wc_170) (hWCA _ wc_171) (hWCA _ wc_172) (hWCA _ wc_66) (hWCA _ wc_118) (fun w h => h)) rfl rfl rfl (by decide +kernel) ⟨Nat.le_of_ble_eq_true rfl, Nat.le_of_ble_eq_true rfl⟩) rfl hl.1 rfl (Nat.le_of_ble_eq_true rfl) ⟨Nat.le_of_ble_eq_true rfl, Nat.le_of_ble_eq_true rfl⟩ dX6_add_12
    · exact c_TV (As := [.int a2]) (rest := []) hC hP hS hX hno z1.1 (cE_6 z1.2) (C := RX6) (T := TX6) (N := 8) rfl (tm_X6_checkCoordinate l hfl G F S D _ a0 a2 _ h) (cwV 1 hts (gVA (hWCA _ wc_170) (hWCA _ wc_171) (hWCA _ wc_172) (hWCA _ wc_66) (hWCA _ wc_118) (fun w h => h)) rfl rfl rfl (by decide +kernel) ⟨Nat.le_of_ble_eq_true rfl, Nat.le_of_ble_eq_true rfl⟩) rfl hl.1 rfl (Nat.le_of_ble_eq_true rfl) ⟨Nat.le_of_ble_eq_true rfl, Nat.le_of_ble_eq_true rfl⟩ dX6_add_7
  · exact c_TV (As := [.int a1]) (rest := []) hC hP hS hX hno z1.1 (cE_6 z1.2) (C := RX6) (T := TX6) (N := 8) rfl (tm_X6_checkCoordinate l hfl G F S D _ a0 a1 _ h) (cwV 1 hts (gVA (hWCA _ wc_170) (hWCA _ wc_171) (hWCA _ wc_172) (hWCA _ wc_66) (hWCA _ wc_118) (fun w h => h)) rfl rfl rfl (by decide +kernel) ⟨Nat.le_of_ble_eq_true rfl, Nat.le_of_ble_eq_true rfl⟩) rfl hl.1 rfl (Nat.le_of_ble_eq_true rfl) ⟨Nat.le_of_ble_eq_true rfl, Nat.le_of_ble_eq_true rfl⟩ dX6_add_2

theorem dX6_remove_0 : decode cX6_remove 0 = .ok (.aload_n 0, 1) := by decide +kernel
theorem dX6_remove_1 : decode cX6_remove 1 = .ok (.iload_n 1, 1) := by decide +kernel
theorem dX6_remove_2 : decode cX6_remove 2 = .ok (.invokevirtual 94, 3) := by decide +kernel
theorem dX6_remove_5 : decode cX6_remove 5 = .ok (.aload_n 0, 1) := by decide +kernel
theorem dX6_remove_6 : decode cX6_remove 6 = .ok (.getfield 12, 3) := by decide +kernel
theorem dX6_remove_9 : decode cX6_remove 9 = .ok (.iload_n 1, 1) := by decide +kernel
theorem dX6_remove_10 : decode cX6_remove 10 = .ok (.invokevirtual 97, 3) := by decide +kernel
theorem dX6_remove_13 : decode cX6_remove 13 = .ok (.pop, 1) := by decide +kernel
theorem dX6_remove_14 : decode cX6_remove 14 = .ok (.aload_n 0, 1) := by decide +kernel
theorem dX6_remove_15 : decode cX6_remove 15 = .ok (.invokevirtual 62, 3) := by decide +kernel
theorem dX6_remove_18 : decode cX6_remove 18 = .ok (.aload_n 0, 1) := by decide +kernel
theorem dX6_remove_19 : decode cX6_remove 19 = .ok (.getfield 12, 3) := by decide +kernel
theorem dX6_remove_22 : decode cX6_remove 22 = .ok (.invokevirtual 75, 3) := by decide +kernel
theorem dX6_remove_25 : decode cX6_remove 25 = .ok (.ireturn, 1) := by decide +kernel
def wX6_remove : List Cond := Cond.code yX6_remove cX6_remove 2 (some .int) :: WA
def t_X6_remove (F : Nat) (S : CS) (D : CD) (a0 : Nat) (a1 : Int32) : Option (CD × String) := ckK S a0 6 <| thr (f_X6_checkSegment F S D a0 a1) (t_X6_checkSegment F S D a0 a1) fun _ => none
set_option maxRecDepth 100000 in
set_option maxHeartbeats 4000000 in
theorem tm_X6_remove (l : Launch) (hfl : l.stackTraces = false) (G : cG) (F : Nat) (S : CS) (D D2 : CD) (a0 : Nat) (a1 : Int32) (E : String) (h : t_X6_remove F S D a0 a1 = some (D2, E)) : cMTI l yX6_remove wX6_remove ({ frames := 8, cells := 1, slots := 6, locals := 177 }) G S [.ref a0, .int a1] D D2 E := by
  refine cBodyT (Qc := xQI) (cc := cX6_remove) (maxL := 2) (ret := (some .int)) (own := RX6) (by decide) rfl rfl ?_
  intro sz p e s m below meth c hC hP hX hno
  have hin : ∀ w ∈ WA, w ∈ wX6_remove := fun w h => List.mem_cons_of_mem _ h
  have hC0 := hC
  obtain ⟨hx, hb, -, hts, hown, -, hml, -, -, -⟩ := hC0
  have hS : va_S (cA G S sz) s.heap s.heap [] := va_S.rf
  refine m_entry (Nat.le_of_ble_eq_true rfl) (fun ls hl => ?_)
  have hl : lv_has ls 2 [(0, .ref a0), (1, .int a1)] := hl
  unfold t_X6_remove at h
  refine lv_aload_n hx hb dX6_remove_0 rfl (lv_at hl 0 rfl) ?_
  refine lv_iload_n hx hb dX6_remove_1 rfl (lv_at hl 1 rfl) ?_
  obtain ⟨z1, h⟩ := ckK_el h
  rcases thr_el h with ⟨_, e2, h⟩ | h
  · cases h
  · exact c_TV (As := [.int a1]) (rest := []) hC hP hS hX hno z1.1 (cE_6 z1.2) (C := RX6) (T := TX6) (N := 8) rfl (tm_X6_checkSegment l hfl G F S D _ a0 a1 _ h) (cwV 1 hts (gVA (hWCA _ wc_63) (hWCA _ wc_64) (hWCA _ wc_65) (hWCA _ wc_66) (hWCA _ wc_8) (fun w h => h)) rfl rfl rfl (by decide +kernel) ⟨Nat.le_of_ble_eq_true rfl, Nat.le_of_ble_eq_true rfl⟩) rfl hl.1 rfl (Nat.le_of_ble_eq_true rfl) ⟨Nat.le_of_ble_eq_true rfl, Nat.le_of_ble_eq_true rfl⟩ dX6_remove_2

