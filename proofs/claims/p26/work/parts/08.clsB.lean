theorem dX6_faceLeftOf_0 : decode cX6_faceLeftOf 0 = .ok (.iconst (-1), 1) := by decide +kernel
theorem dX6_faceLeftOf_1 : decode cX6_faceLeftOf 1 = .ok (.istore_n 2, 1) := by decide +kernel
theorem dX6_faceLeftOf_2 : decode cX6_faceLeftOf 2 = .ok (.iconst 0, 1) := by decide +kernel
theorem dX6_faceLeftOf_3 : decode cX6_faceLeftOf 3 = .ok (.istore_n 3, 1) := by decide +kernel
theorem dX6_faceLeftOf_4 : decode cX6_faceLeftOf 4 = .ok (.iload_n 3, 1) := by decide +kernel
theorem dX6_faceLeftOf_5 : decode cX6_faceLeftOf 5 = .ok (.aload_n 0, 1) := by decide +kernel
theorem dX6_faceLeftOf_6 : decode cX6_faceLeftOf 6 = .ok (.getfield 35, 3) := by decide +kernel
theorem dX6_faceLeftOf_9 : decode cX6_faceLeftOf 9 = .ok (.getfield 112, 3) := by decide +kernel
theorem dX6_faceLeftOf_12 : decode cX6_faceLeftOf 12 = .ok (.if_icmp .ge 35, 3) := by decide +kernel
theorem dX6_faceLeftOf_15 : decode cX6_faceLeftOf 15 = .ok (.aload_n 0, 1) := by decide +kernel
theorem dX6_faceLeftOf_16 : decode cX6_faceLeftOf 16 = .ok (.iload_n 3, 1) := by decide +kernel
theorem dX6_faceLeftOf_17 : decode cX6_faceLeftOf 17 = .ok (.aload_n 1, 1) := by decide +kernel
theorem dX6_faceLeftOf_18 : decode cX6_faceLeftOf 18 = .ok (.invokevirtual 319, 3) := by decide +kernel
theorem dX6_faceLeftOf_21 : decode cX6_faceLeftOf 21 = .ok (.ifCond .eq 20, 3) := by decide +kernel
theorem dX6_faceLeftOf_24 : decode cX6_faceLeftOf 24 = .ok (.iload_n 2, 1) := by decide +kernel
theorem dX6_faceLeftOf_25 : decode cX6_faceLeftOf 25 = .ok (.iconst (-1), 1) := by decide +kernel
theorem dX6_faceLeftOf_26 : decode cX6_faceLeftOf 26 = .ok (.if_icmp .eq 13, 3) := by decide +kernel
theorem dX6_faceLeftOf_29 : decode cX6_faceLeftOf 29 = .ok (.aload_n 0, 1) := by decide +kernel
theorem dX6_faceLeftOf_30 : decode cX6_faceLeftOf 30 = .ok (.iload_n 3, 1) := by decide +kernel
theorem dX6_faceLeftOf_31 : decode cX6_faceLeftOf 31 = .ok (.iload_n 2, 1) := by decide +kernel
theorem dX6_faceLeftOf_32 : decode cX6_faceLeftOf 32 = .ok (.aload_n 1, 1) := by decide +kernel
theorem dX6_faceLeftOf_33 : decode cX6_faceLeftOf 33 = .ok (.invokevirtual 323, 3) := by decide +kernel
theorem dX6_faceLeftOf_36 : decode cX6_faceLeftOf 36 = .ok (.ifCond .eq 5, 3) := by decide +kernel
theorem dX6_faceLeftOf_39 : decode cX6_faceLeftOf 39 = .ok (.iload_n 3, 1) := by decide +kernel
theorem dX6_faceLeftOf_40 : decode cX6_faceLeftOf 40 = .ok (.istore_n 2, 1) := by decide +kernel
theorem dX6_faceLeftOf_41 : decode cX6_faceLeftOf 41 = .ok (.iinc 3 1, 3) := by decide +kernel
theorem dX6_faceLeftOf_44 : decode cX6_faceLeftOf 44 = .ok (.goto (-40), 3) := by decide +kernel
theorem dX6_faceLeftOf_47 : decode cX6_faceLeftOf 47 = .ok (.iload_n 2, 1) := by decide +kernel
theorem dX6_faceLeftOf_48 : decode cX6_faceLeftOf 48 = .ok (.iconst (-1), 1) := by decide +kernel
theorem dX6_faceLeftOf_49 : decode cX6_faceLeftOf 49 = .ok (.if_icmp .ne 7, 3) := by decide +kernel
theorem dX6_faceLeftOf_52 : decode cX6_faceLeftOf 52 = .ok (.iconst 0, 1) := by decide +kernel
theorem dX6_faceLeftOf_53 : decode cX6_faceLeftOf 53 = .ok (.goto 16, 3) := by decide +kernel
theorem dX6_faceLeftOf_56 : decode cX6_faceLeftOf 56 = .ok (.aload_n 0, 1) := by decide +kernel
theorem dX6_faceLeftOf_57 : decode cX6_faceLeftOf 57 = .ok (.getfield 35, 3) := by decide +kernel
theorem dX6_faceLeftOf_60 : decode cX6_faceLeftOf 60 = .ok (.getfield 156, 3) := by decide +kernel
theorem dX6_faceLeftOf_63 : decode cX6_faceLeftOf 63 = .ok (.iconst 2, 1) := by decide +kernel
theorem dX6_faceLeftOf_64 : decode cX6_faceLeftOf 64 = .ok (.iload_n 2, 1) := by decide +kernel
theorem dX6_faceLeftOf_65 : decode cX6_faceLeftOf 65 = .ok (.imul, 1) := by decide +kernel
theorem dX6_faceLeftOf_66 : decode cX6_faceLeftOf 66 = .ok (.invokevirtual 140, 3) := by decide +kernel
theorem dX6_faceLeftOf_69 : decode cX6_faceLeftOf 69 = .ok (.ireturn, 1) := by decide +kernel
def f_X6_faceLeftOf_b41 (F : Nat) (S : CS) (D : CD) (a0 : Nat) (k4 : Nat → Int32 → Int32 → Option Int32) (x1 : Nat) (x2 : Int32) (x3 : Int32) : Option Int32 := k4 x1 x2 (x3 + 1)
def f_X6_faceLeftOf_L4 (F : Nat) (S : CS) (D : CD) (a0 : Nat) : Nat → Nat → Int32 → Int32 → Option Int32
  | 0, _, _, _ => none
  | n4 + 1, x1, x2, x3 => ckK S a0 6 <| cal (S.2.2.1 a0 3) fun p2 => ckK S p2 0 <| (if (D.1 p2 5) ≤ x3 then (if x2 = ((-1)) then some 0 else cal (S.2.2.1 a0 3) fun p7 => ckK S p7 0 <| cal (S.2.2.1 p7 4) fun p10 => ckK S p10 3 <| cal (f_X3_get F S D p10 (2 * x2)) fun t14 => some t14) else cal (f_X6_isUnder F S D a0 x3 x1) fun t16 => (if t16 = 0 then f_X6_faceLeftOf_b41 F S D a0 ((f_X6_faceLeftOf_L4 F S D a0 n4)) x1 x2 x3 else (if x2 = ((-1)) then f_X6_faceLeftOf_b41 F S D a0 ((f_X6_faceLeftOf_L4 F S D a0 n4)) x1 x3 x3 else cal (f_X6_isHigher F S D a0 x3 x2 x1) fun t20 => (if t20 = 0 then f_X6_faceLeftOf_b41 F S D a0 ((f_X6_faceLeftOf_L4 F S D a0 n4)) x1 x2 x3 else f_X6_faceLeftOf_b41 F S D a0 ((f_X6_faceLeftOf_L4 F S D a0 n4)) x1 x3 x3))))
def f_X6_faceLeftOf (F : Nat) (S : CS) (D : CD) (a0 : Nat) (a1 : Nat) : Option Int32 := f_X6_faceLeftOf_L4 F S D a0 F a1 ((-1)) 0
set_option maxRecDepth 100000 in
set_option maxHeartbeats 4000000 in
theorem m_X6_faceLeftOf (l : Launch) (G : cG) (F : Nat) (S : CS) (D : CD) (a0 : Nat) (a1 : Nat) (r : Int32) (h : f_X6_faceLeftOf F S D a0 a1 = some r) : cMI l yX6_faceLeftOf vX6_faceLeftOf ({ frames := 5, cells := 0, slots := 0, locals := 111 }) G S [.ref a0, .ref a1] D D r := by
  refine cBodyI (cc := cX6_faceLeftOf) (maxL := 4) (ret := (some .int)) (own := RX6) (by decide) rfl rfl ?_
  intro sz p e s m below meth c hC hP
  have hC0 := hC
  obtain ⟨hx, hb, -, hts, hown, -, hml, -, -, -⟩ := hC0
  have hS : va_S (cA G S sz) s.heap s.heap [] := va_S.rf
  have hin_X0 : ∀ w ∈ wsX00, w ∈ vX6_faceLeftOf := fun w h => List.mem_cons_of_mem _ (hWC0 w h)
  have hin_X6 : ∀ w ∈ wsX60, w ∈ vX6_faceLeftOf := fun w h => List.mem_cons_of_mem _ (hWC6 w h)
  have fl_X6_pieces := hts _ (List.mem_cons_of_mem _ wc_76)
  have L4 : ∀ (n4 : Nat) (H : Heap) (locs : List Loc) (ls : Array Slot) (x1 : Nat) (x2 : Int32) (x3 : Int32), va_P G.1 vwCl (cW G S D) H → va_S (cA G S sz) s.heap H locs → lv_has ls 4 [(0, .ref a0), (1, .ref x1), (2, .int x2), (3, .int x3)] → f_X6_faceLeftOf_L4 F S D a0 n4 x1 x2 x3 = some r → W p l e (headSpec vX6_faceLeftOf ({ frames := 5, cells := 0, slots := 0, locals := 111 })).room s m ([.ref a0, .ref a1] : List Value).toArray below meth c H locs 0 0 (cQI below G S D sz ([.ref a0, .ref a1] : List Value).toArray s r) (F0 m 4 ls []) := by
    intro n4
    induction n4 with
    | zero =>
      intro H locs ls x1 x2 x3 hP hS hl h
      rw [f_X6_faceLeftOf_L4] at h; cases h
    | succ n4 ih4 =>
      have b41 : ∀ (H : Heap) (locs : List Loc) (ls : Array Slot) (x1 : Nat) (x2 : Int32) (x3 : Int32), va_P G.1 vwCl (cW G S D) H → va_S (cA G S sz) s.heap H locs → lv_has ls 4 [(0, .ref a0), (1, .ref x1), (2, .int x2), (3, .int x3)] → f_X6_faceLeftOf_b41 F S D a0 ((f_X6_faceLeftOf_L4 F S D a0 n4)) x1 x2 x3 = some r → W p l e (headSpec vX6_faceLeftOf ({ frames := 5, cells := 0, slots := 0, locals := 111 })).room s m ([.ref a0, .ref a1] : List Value).toArray below meth c H locs 0 0 (cQI below G S D sz ([.ref a0, .ref a1] : List Value).toArray s r) (F0 m 41 ls []) := by
        intro H locs ls x1 x2 x3 hP hS hl h
        unfold f_X6_faceLeftOf_b41 at h
        refine lv_iinc (v := x3 + 1) (lv' := [(3, .int (x3 + 1)), (0, .ref a0), (1, .ref x1), (2, .int x2)]) hx hb dX6_faceLeftOf_41 hl (k := 3) rfl rfl (by decide) rfl (fun ls hl => ?_)
        refine lv_goto (tgt := 4) hx hb dX6_faceLeftOf_44 (by decide) ?_
        exact ih4 _ _ _ x1 x2 (x3 + 1) hP hS (lv_sub hl [1, 2, 3, 0] rfl) h
      intro H locs ls x1 x2 x3 hP hS hl h
      rw [f_X6_faceLeftOf_L4] at h
      refine lv_iload_n hx hb dX6_faceLeftOf_4 rfl (lv_at hl 3 rfl) ?_
      refine lv_aload_n hx hb dX6_faceLeftOf_5 rfl (lv_at hl 0 rfl) ?_
      obtain ⟨z1, h⟩ := ckK_el h
      obtain ⟨p2, e3, h⟩ := cal_el h
      refine c_get (C := RX6) (T := TX6) (N := 8) (ref := "SegmentMap") (ci := 7) (v := .ref p2) hC hin_X6 hP z1.1 (cE_6 z1.2) rfl 3 (by decide) fl_X6_pieces rfl (by show some (va_rf (S.2.2.1 a0 3)) = _; rw [e3]; rfl) dX6_faceLeftOf_6 ?_
      obtain ⟨z4, h⟩ := ckK_el h
      refine c_getN (C := RX0) (T := TX0) (N := 6) (ref := "SegmentMap$Edges") (ci := 1) (v := .int (D.1 p2 5)) hC hin_X0 hP z4.1 (cE_0 z4.2) rfl 5 (by decide) (nm := "count") (ds := "I") (List.mem_of_getElem? (i := 1) rfl) rfl rfl dX6_faceLeftOf_9 ?_
      refine lv_icmp_ge (tgt := 47) hx hb dX6_faceLeftOf_12 (by decide) (fun u5 => ?_) (fun u5 => ?_)
      · have h := ite_t u5 h
        refine lv_iload_n hx hb dX6_faceLeftOf_47 rfl (lv_at hl 2 rfl) ?_
        refine lv_iconst (v := (-1)) hx hb dX6_faceLeftOf_48 (by decide) ?_
        refine lv_icmp_ne (tgt := 56) hx hb dX6_faceLeftOf_49 (by decide) (fun u6 => ?_) (fun u6 => ?_)
        · have h := ite_f u6 h
          refine lv_aload_n hx hb dX6_faceLeftOf_56 rfl (lv_at hl 0 rfl) ?_
          obtain ⟨p7, e8, h⟩ := cal_el h
          refine c_get (C := RX6) (T := TX6) (N := 8) (ref := "SegmentMap") (ci := 7) (v := .ref p7) hC hin_X6 hP z1.1 (cE_6 z1.2) rfl 3 (by decide) fl_X6_pieces rfl (by show some (va_rf (S.2.2.1 a0 3)) = _; rw [e8]; rfl) dX6_faceLeftOf_57 ?_
          obtain ⟨z9, h⟩ := ckK_el h
          obtain ⟨p10, e11, h⟩ := cal_el h
          refine c_getN (C := RX0) (T := TX0) (N := 6) (ref := "SegmentMap$Edges") (ci := 1) (v := .ref p10) hC hin_X0 hP z9.1 (cE_0 z9.2) rfl 4 (by decide) (nm := "face") (ds := "LSegmentMap$Row;") (List.mem_of_getElem? (i := 11) rfl) rfl (by show some (va_rf (S.2.2.1 p7 4)) = _; rw [e11]; rfl) dX6_faceLeftOf_60 ?_
          refine lv_iconst (v := 2) hx hb dX6_faceLeftOf_63 (by decide) ?_
          refine lv_iload_n hx hb dX6_faceLeftOf_64 rfl (lv_at hl 2 rfl) ?_
          refine lv_imul hx hb dX6_faceLeftOf_65 ?_
          obtain ⟨z12, h⟩ := ckK_el h
          obtain ⟨t14, e13, h⟩ := cal_el h
          refine c_VI (As := [.int (2 * x2)]) (rest := []) hC hP hS z12.1 (cE_3 z12.2) (C := RX3) (T := TX3) (N := 1) rfl (m_X3_get l G F S D p10 (2 * x2) t14 e13) (cwV 1 hts (gWC wc_99 wc_100 wc_101 wc_102 wc_96) rfl rfl rfl (by decide +kernel) ⟨Nat.le_of_ble_eq_true rfl, Nat.le_of_ble_eq_true rfl⟩) rfl hl.1 rfl (Nat.le_of_ble_eq_true rfl) dX6_faceLeftOf_66 (fun H locs hP hS => ?_)
          cases h
          exact c_iret hC hP hS rfl dX6_faceLeftOf_69
        · have h := ite_t u6 h
          refine lv_iconst (v := 0) hx hb dX6_faceLeftOf_52 (by decide) ?_
          refine lv_goto (tgt := 69) hx hb dX6_faceLeftOf_53 (by decide) ?_
          cases h
          exact c_iret hC hP hS rfl dX6_faceLeftOf_69
      · have h := ite_f u5 h
        refine lv_aload_n hx hb dX6_faceLeftOf_15 rfl (lv_at hl 0 rfl) ?_
        refine lv_iload_n hx hb dX6_faceLeftOf_16 rfl (lv_at hl 3 rfl) ?_
        refine lv_aload_n hx hb dX6_faceLeftOf_17 rfl (lv_at hl 1 rfl) ?_
        obtain ⟨t16, e15, h⟩ := cal_el h
        refine c_VI (As := [.int x3, .ref x1]) (rest := []) hC hP hS z1.1 (cE_6 z1.2) (C := RX6) (T := TX6) (N := 8) rfl (m_X6_isUnder l G F S D a0 x3 x1 t16 e15) (cwV 2 hts (gWC wc_162 wc_163 wc_164 wc_66 wc_147) rfl rfl rfl (by decide +kernel) ⟨Nat.le_of_ble_eq_true rfl, Nat.le_of_ble_eq_true rfl⟩) rfl hl.1 rfl (Nat.le_of_ble_eq_true rfl) dX6_faceLeftOf_18 (fun H locs hP hS => ?_)
        refine lv_if_eq (tgt := 41) hx hb dX6_faceLeftOf_21 (by decide) (fun u17 => ?_) (fun u17 => ?_)
        · have h := ite_t u17 h
          exact b41 _ _ _ x1 x2 x3 hP hS (lv_sub hl [0, 1, 2, 3] rfl) h
        · have h := ite_f u17 h
          refine lv_iload_n hx hb dX6_faceLeftOf_24 rfl (lv_at hl 2 rfl) ?_
          refine lv_iconst (v := (-1)) hx hb dX6_faceLeftOf_25 (by decide) ?_
          refine lv_icmp_eq (tgt := 39) hx hb dX6_faceLeftOf_26 (by decide) (fun u18 => ?_) (fun u18 => ?_)
          · have h := ite_t u18 h
            refine lv_iload_n hx hb dX6_faceLeftOf_39 rfl (lv_at hl 3 rfl) ?_
            refine lv_istore_n (lv' := [(2, .int x3), (0, .ref a0), (1, .ref x1), (3, .int x3)]) hx hb dX6_faceLeftOf_40 rfl hl (by decide) rfl (fun ls hl => ?_)
            exact b41 _ _ _ x1 x3 x3 hP hS (lv_sub hl [1, 2, 0, 3] rfl) h
          · have h := ite_f u18 h
            refine lv_aload_n hx hb dX6_faceLeftOf_29 rfl (lv_at hl 0 rfl) ?_
            refine lv_iload_n hx hb dX6_faceLeftOf_30 rfl (lv_at hl 3 rfl) ?_
            refine lv_iload_n hx hb dX6_faceLeftOf_31 rfl (lv_at hl 2 rfl) ?_
            refine lv_aload_n hx hb dX6_faceLeftOf_32 rfl (lv_at hl 1 rfl) ?_
            obtain ⟨t20, e19, h⟩ := cal_el h
            refine c_VI (As := [.int x3, .int x2, .ref x1]) (rest := []) hC hP hS z1.1 (cE_6 z1.2) (C := RX6) (T := TX6) (N := 8) rfl (m_X6_isHigher l G F S D a0 x3 x2 x1 t20 e19) (cwV 3 hts (gWC wc_165 wc_166 wc_167 wc_66 wc_154) rfl rfl rfl (by decide +kernel) ⟨Nat.le_of_ble_eq_true rfl, Nat.le_of_ble_eq_true rfl⟩) rfl hl.1 rfl (Nat.le_of_ble_eq_true rfl) dX6_faceLeftOf_33 (fun H locs hP hS => ?_)
            refine lv_if_eq (tgt := 41) hx hb dX6_faceLeftOf_36 (by decide) (fun u21 => ?_) (fun u21 => ?_)
            · have h := ite_t u21 h
              exact b41 _ _ _ x1 x2 x3 hP hS (lv_sub hl [0, 1, 2, 3] rfl) h
            · have h := ite_f u21 h
              refine lv_iload_n hx hb dX6_faceLeftOf_39 rfl (lv_at hl 3 rfl) ?_
              refine lv_istore_n (lv' := [(2, .int x3), (0, .ref a0), (1, .ref x1), (3, .int x3)]) hx hb dX6_faceLeftOf_40 rfl hl (by decide) rfl (fun ls hl => ?_)
              exact b41 _ _ _ x1 x3 x3 hP hS (lv_sub hl [1, 2, 0, 3] rfl) h
  refine m_entry (Nat.le_of_ble_eq_true rfl) (fun ls hl => ?_)
  have hl : lv_has ls 4 [(0, .ref a0), (1, .ref a1)] := hl
  unfold f_X6_faceLeftOf at h
  refine lv_iconst (v := (-1)) hx hb dX6_faceLeftOf_0 (by decide) ?_
  refine lv_istore_n (lv' := [(2, .int ((-1))), (0, .ref a0), (1, .ref a1)]) hx hb dX6_faceLeftOf_1 rfl hl (by decide) rfl (fun ls hl => ?_)
  refine lv_iconst (v := 0) hx hb dX6_faceLeftOf_2 (by decide) ?_
  refine lv_istore_n (lv' := [(3, .int 0), (2, .int ((-1))), (0, .ref a0), (1, .ref a1)]) hx hb dX6_faceLeftOf_3 rfl hl (by decide) rfl (fun ls hl => ?_)
  exact L4 F _ _ _ a1 ((-1)) 0 hP hS (lv_sub hl [2, 3, 1, 0] rfl) h

theorem dX6_faceAt_0 : decode cX6_faceAt 0 = .ok (.aload_n 0, 1) := by decide +kernel
theorem dX6_faceAt_1 : decode cX6_faceAt 1 = .ok (.iload_n 1, 1) := by decide +kernel
theorem dX6_faceAt_2 : decode cX6_faceAt 2 = .ok (.invokevirtual 65, 3) := by decide +kernel
theorem dX6_faceAt_5 : decode cX6_faceAt 5 = .ok (.aload_n 0, 1) := by decide +kernel
theorem dX6_faceAt_6 : decode cX6_faceAt 6 = .ok (.iload_n 2, 1) := by decide +kernel
theorem dX6_faceAt_7 : decode cX6_faceAt 7 = .ok (.invokevirtual 65, 3) := by decide +kernel
theorem dX6_faceAt_10 : decode cX6_faceAt 10 = .ok (.aload_n 0, 1) := by decide +kernel
theorem dX6_faceAt_11 : decode cX6_faceAt 11 = .ok (.getfield 58, 3) := by decide +kernel
theorem dX6_faceAt_14 : decode cX6_faceAt 14 = .ok (.iload_n 1, 1) := by decide +kernel
theorem dX6_faceAt_15 : decode cX6_faceAt 15 = .ok (.i2l, 1) := by decide +kernel
theorem dX6_faceAt_16 : decode cX6_faceAt 16 = .ok (.iload_n 2, 1) := by decide +kernel
theorem dX6_faceAt_17 : decode cX6_faceAt 17 = .ok (.i2l, 1) := by decide +kernel
theorem dX6_faceAt_18 : decode cX6_faceAt 18 = .ok (.lconst 1, 1) := by decide +kernel
theorem dX6_faceAt_19 : decode cX6_faceAt 19 = .ok (.invokevirtual 168, 3) := by decide +kernel
theorem dX6_faceAt_22 : decode cX6_faceAt 22 = .ok (.iconst 0, 1) := by decide +kernel
theorem dX6_faceAt_23 : decode cX6_faceAt 23 = .ok (.istore_n 3, 1) := by decide +kernel
theorem dX6_faceAt_24 : decode cX6_faceAt 24 = .ok (.iload_n 3, 1) := by decide +kernel
theorem dX6_faceAt_25 : decode cX6_faceAt 25 = .ok (.aload_n 0, 1) := by decide +kernel
theorem dX6_faceAt_26 : decode cX6_faceAt 26 = .ok (.getfield 12, 3) := by decide +kernel
theorem dX6_faceAt_29 : decode cX6_faceAt 29 = .ok (.invokevirtual 75, 3) := by decide +kernel
theorem dX6_faceAt_32 : decode cX6_faceAt 32 = .ok (.if_icmp .ge 32, 3) := by decide +kernel
theorem dX6_faceAt_35 : decode cX6_faceAt 35 = .ok (.aload_n 0, 1) := by decide +kernel
theorem dX6_faceAt_36 : decode cX6_faceAt 36 = .ok (.getfield 12, 3) := by decide +kernel
theorem dX6_faceAt_39 : decode cX6_faceAt 39 = .ok (.iload_n 3, 1) := by decide +kernel
theorem dX6_faceAt_40 : decode cX6_faceAt 40 = .ok (.invokevirtual 172, 3) := by decide +kernel
theorem dX6_faceAt_43 : decode cX6_faceAt 43 = .ok (.checkcast 16, 3) := by decide +kernel
theorem dX6_faceAt_46 : decode cX6_faceAt 46 = .ok (.aload_n 0, 1) := by decide +kernel
theorem dX6_faceAt_47 : decode cX6_faceAt 47 = .ok (.getfield 58, 3) := by decide +kernel
theorem dX6_faceAt_50 : decode cX6_faceAt 50 = .ok (.invokevirtual 174, 3) := by decide +kernel
theorem dX6_faceAt_53 : decode cX6_faceAt 53 = .ok (.ifCond .eq 5, 3) := by decide +kernel
theorem dX6_faceAt_56 : decode cX6_faceAt 56 = .ok (.iconst (-1), 1) := by decide +kernel
theorem dX6_faceAt_57 : decode cX6_faceAt 57 = .ok (.ireturn, 1) := by decide +kernel
theorem dX6_faceAt_58 : decode cX6_faceAt 58 = .ok (.iinc 3 1, 3) := by decide +kernel
theorem dX6_faceAt_61 : decode cX6_faceAt 61 = .ok (.goto (-37), 3) := by decide +kernel
theorem dX6_faceAt_64 : decode cX6_faceAt 64 = .ok (.aload_n 0, 1) := by decide +kernel
theorem dX6_faceAt_65 : decode cX6_faceAt 65 = .ok (.aload_n 0, 1) := by decide +kernel
theorem dX6_faceAt_66 : decode cX6_faceAt 66 = .ok (.getfield 58, 3) := by decide +kernel
theorem dX6_faceAt_69 : decode cX6_faceAt 69 = .ok (.invokevirtual 178, 3) := by decide +kernel
theorem dX6_faceAt_72 : decode cX6_faceAt 72 = .ok (.ireturn, 1) := by decide +kernel
def f_X6_faceAt_L24 (F : Nat) (S : CS) (a0 : Nat) : Nat → CD → Int32 → Option (CD × Int32)
  | 0, _, _ => none
  | n24 + 1, D, x3 => ckK S a0 6 <| cal (S.2.2.1 a0 0) fun p2 => ckK S p2 7 <| cal (f_Jx4a65c_size_8abf5 F S D p2) fun t6 => (if t6 ≤ x3 then cal (S.2.2.1 a0 6) fun p8 => cal (f_X6_faceLeftOf F S D a0 p8) fun t11 => some (D, t11) else cal (S.2.2.1 a0 0) fun p12 => ckK S p12 7 <| cal (f_Jx4a65c_get_915e3 F S D p12 x3) fun t16 => ckK S t16 4 <| cal (S.2.2.1 a0 6) fun p18 => cal (f_X4_holds F S D t16 p18) fun t21 => (if t21 = 0 then (f_X6_faceAt_L24 F S a0 n24) D (x3 + 1) else some (D, (-1))))
def f_X6_faceAt (F : Nat) (S : CS) (D : CD) (a0 : Nat) (a1 : Int32) (a2 : Int32) : Option (CD × Int32) := ckK S a0 6 <| cal (f_X6_checkCoordinate F S D a0 a1) fun _ => cal (f_X6_checkCoordinate F S D a0 a2) fun _ => cal (S.2.2.1 a0 6) fun p4 => ckK S p4 2 <| cal (f_X2_put F S D p4 a1.toInt64 a2.toInt64 1) fun D8 => f_X6_faceAt_L24 F S a0 F D8 0
set_option maxRecDepth 100000 in
set_option maxHeartbeats 4000000 in
theorem m_X6_faceAt (l : Launch) (G : cG) (F : Nat) (S : CS) (D D2 : CD) (a0 : Nat) (a1 : Int32) (a2 : Int32) (r : Int32) (h : f_X6_faceAt F S D a0 a1 a2 = some (D2, r)) : cMI l yX6_faceAt vX6_faceAt ({ frames := 6, cells := 0, slots := 0, locals := 134 }) G S [.ref a0, .int a1, .int a2] D D2 r := by
  refine cBodyI (cc := cX6_faceAt) (maxL := 4) (ret := (some .int)) (own := RX6) (by decide) rfl rfl ?_
  intro sz p e s m below meth c hC hP
  have hC0 := hC
  obtain ⟨hx, hb, -, hts, hown, -, hml, -, -, -⟩ := hC0
  have hS : va_S (cA G S sz) s.heap s.heap [] := va_S.rf
  have hin_X6 : ∀ w ∈ wsX60, w ∈ vX6_faceAt := fun w h => List.mem_cons_of_mem _ (hWC6 w h)
  have fl_X6_probe := hts _ (List.mem_cons_of_mem _ wc_169)
  have fl_X6_lines := hts _ (List.mem_cons_of_mem _ wc_3)
  have cl_X4 := hts _ (List.mem_cons_of_mem _ wc_24)
  have L24 : ∀ (n24 : Nat) (H : Heap) (locs : List Loc) (ls : Array Slot) (D : CD) (x3 : Int32), va_P G.1 vwCl (cW G S D) H → va_S (cA G S sz) s.heap H locs → lv_has ls 4 [(0, .ref a0), (3, .int x3)] → f_X6_faceAt_L24 F S a0 n24 D x3 = some (D2, r) → W p l e (headSpec vX6_faceAt ({ frames := 6, cells := 0, slots := 0, locals := 134 })).room s m ([.ref a0, .int a1, .int a2] : List Value).toArray below meth c H locs 0 0 (cQI below G S D2 sz ([.ref a0, .int a1, .int a2] : List Value).toArray s r) (F0 m 24 ls []) := by
    intro n24
    induction n24 with
    | zero =>
      intro H locs ls D x3 hP hS hl h
      rw [f_X6_faceAt_L24] at h; cases h
    | succ n24 ih24 =>
      intro H locs ls D x3 hP hS hl h
      rw [f_X6_faceAt_L24] at h
      refine lv_iload_n hx hb dX6_faceAt_24 rfl (lv_at hl 1 rfl) ?_
      refine lv_aload_n hx hb dX6_faceAt_25 rfl (lv_at hl 0 rfl) ?_
      obtain ⟨z1, h⟩ := ckK_el h
      obtain ⟨p2, e3, h⟩ := cal_el h
      refine c_get (C := RX6) (T := TX6) (N := 8) (ref := "SegmentMap") (ci := 7) (v := .ref p2) hC hin_X6 hP z1.1 (cE_6 z1.2) rfl 0 (by decide) fl_X6_lines rfl (by show some (va_rf (S.2.2.1 a0 0)) = _; rw [e3]; rfl) dX6_faceAt_26 ?_
      obtain ⟨z4, h⟩ := ckK_el h
      obtain ⟨t6, e5, h⟩ := cal_el h
      refine c_VI (As := []) (rest := [.int x3]) hC hP hS z4.1 (cE_7 z4.2) (C := RJx4a65c) (T := TJx4a65c) (N := 3) rfl (m_Jx4a65c_size_8abf5 l G F S D p2 t6 e5) (cwV 0 hts (gWC wc_4 wc_5 wc_6 wc_7 wc_0) rfl rfl rfl (by decide +kernel) ⟨Nat.le_of_ble_eq_true rfl, Nat.le_of_ble_eq_true rfl⟩) rfl hl.1 rfl (Nat.le_of_ble_eq_true rfl) dX6_faceAt_29 (fun H locs hP hS => ?_)
      refine lv_icmp_ge (tgt := 64) hx hb dX6_faceAt_32 (by decide) (fun u7 => ?_) (fun u7 => ?_)
      · have h := ite_t u7 h
        refine lv_aload_n hx hb dX6_faceAt_64 rfl (lv_at hl 0 rfl) ?_
        refine lv_aload_n hx hb dX6_faceAt_65 rfl (lv_at hl 0 rfl) ?_
        obtain ⟨p8, e9, h⟩ := cal_el h
        refine c_get (C := RX6) (T := TX6) (N := 8) (ref := "SegmentMap") (ci := 7) (v := .ref p8) hC hin_X6 hP z1.1 (cE_6 z1.2) rfl 6 (by decide) fl_X6_probe rfl (by show some (va_rf (S.2.2.1 a0 6)) = _; rw [e9]; rfl) dX6_faceAt_66 ?_
        obtain ⟨t11, e10, h⟩ := cal_el h
        refine c_VI (As := [.ref p8]) (rest := []) hC hP hS z1.1 (cE_6 z1.2) (C := RX6) (T := TX6) (N := 8) rfl (m_X6_faceLeftOf l G F S D a0 p8 t11 e10) (cwV 1 hts (gWC wc_179 wc_180 wc_181 wc_66 wc_161) rfl rfl rfl (by decide +kernel) ⟨Nat.le_of_ble_eq_true rfl, Nat.le_of_ble_eq_true rfl⟩) rfl hl.1 rfl (Nat.le_of_ble_eq_true rfl) dX6_faceAt_69 (fun H locs hP hS => ?_)
        cases h
        exact c_iret hC hP hS rfl dX6_faceAt_72
      · have h := ite_f u7 h
        refine lv_aload_n hx hb dX6_faceAt_35 rfl (lv_at hl 0 rfl) ?_
        obtain ⟨p12, e13, h⟩ := cal_el h
        refine c_get (C := RX6) (T := TX6) (N := 8) (ref := "SegmentMap") (ci := 7) (v := .ref p12) hC hin_X6 hP z1.1 (cE_6 z1.2) rfl 0 (by decide) fl_X6_lines rfl (by show some (va_rf (S.2.2.1 a0 0)) = _; rw [e13]; rfl) dX6_faceAt_36 ?_
        refine lv_iload_n hx hb dX6_faceAt_39 rfl (lv_at hl 1 rfl) ?_
        obtain ⟨z14, h⟩ := ckK_el h
        obtain ⟨t16, e15, h⟩ := cal_el h
        refine c_VA (As := [.int x3]) (rest := []) hC hP hS z14.1 (cE_7 z14.2) (C := RJx4a65c) (T := TJx4a65c) (N := 3) rfl (m_Jx4a65c_get_915e3 l G F S D p12 x3 t16 e15) (cwV 1 hts (gWC wc_26 wc_27 wc_28 wc_7 wc_16) rfl rfl rfl (by decide +kernel) ⟨Nat.le_of_ble_eq_true rfl, Nat.le_of_ble_eq_true rfl⟩) rfl hl.1 rfl (Nat.le_of_ble_eq_true rfl) dX6_faceAt_40 (fun H locs hP hS => ?_)
        obtain ⟨z17, h⟩ := ckK_el h
        refine c_cast (C := RX4) (T := TX4) (N := 6) (ci := 5) hC hP z17.1 (cE_4 z17.2) rfl cl_X4 dX6_faceAt_43 ?_
        refine lv_aload_n hx hb dX6_faceAt_46 rfl (lv_at hl 0 rfl) ?_
        obtain ⟨p18, e19, h⟩ := cal_el h
        refine c_get (C := RX6) (T := TX6) (N := 8) (ref := "SegmentMap") (ci := 7) (v := .ref p18) hC hin_X6 hP z1.1 (cE_6 z1.2) rfl 6 (by decide) fl_X6_probe rfl (by show some (va_rf (S.2.2.1 a0 6)) = _; rw [e19]; rfl) dX6_faceAt_47 ?_
        obtain ⟨t21, e20, h⟩ := cal_el h
        refine c_VI (As := [.ref p18]) (rest := []) hC hP hS z17.1 (cE_4 z17.2) (C := RX4) (T := TX4) (N := 6) rfl (m_X4_holds l G F S D t16 p18 t21 e20) (cwV 1 hts (gWC wc_176 wc_177 wc_178 wc_48 wc_141) rfl rfl rfl (by decide +kernel) ⟨Nat.le_of_ble_eq_true rfl, Nat.le_of_ble_eq_true rfl⟩) rfl hl.1 rfl (Nat.le_of_ble_eq_true rfl) dX6_faceAt_50 (fun H locs hP hS => ?_)
        refine lv_if_eq (tgt := 58) hx hb dX6_faceAt_53 (by decide) (fun u22 => ?_) (fun u22 => ?_)
        · have h := ite_t u22 h
          refine lv_iinc (v := x3 + 1) (lv' := [(3, .int (x3 + 1)), (0, .ref a0)]) hx hb dX6_faceAt_58 hl (k := 1) rfl rfl (by decide) rfl (fun ls hl => ?_)
          refine lv_goto (tgt := 24) hx hb dX6_faceAt_61 (by decide) ?_
          exact ih24 _ _ _ D (x3 + 1) hP hS (lv_sub hl [1, 0] rfl) h
        · have h := ite_f u22 h
          refine lv_iconst (v := (-1)) hx hb dX6_faceAt_56 (by decide) ?_
          cases h
          exact c_iret hC hP hS rfl dX6_faceAt_57
  refine m_entry (Nat.le_of_ble_eq_true rfl) (fun ls hl => ?_)
  have hl : lv_has ls 4 [(0, .ref a0), (1, .int a1), (2, .int a2)] := hl
  unfold f_X6_faceAt at h
  refine lv_aload_n hx hb dX6_faceAt_0 rfl (lv_at hl 0 rfl) ?_
  refine lv_iload_n hx hb dX6_faceAt_1 rfl (lv_at hl 1 rfl) ?_
  obtain ⟨z1, h⟩ := ckK_el h
  obtain ⟨_, e2, h⟩ := cal_el h
  refine c_VV (As := [.int a1]) (rest := []) hC hP hS z1.1 (cE_6 z1.2) (C := RX6) (T := TX6) (N := 8) rfl (m_X6_checkCoordinate l G F S D a0 a1 e2) (cwV 1 hts (gWC wc_170 wc_171 wc_172 wc_66 wc_118) rfl rfl rfl (by decide +kernel) ⟨Nat.le_of_ble_eq_true rfl, Nat.le_of_ble_eq_true rfl⟩) rfl hl.1 rfl (Nat.le_of_ble_eq_true rfl) dX6_faceAt_2 (fun H locs hP hS => ?_)
  refine lv_aload_n hx hb dX6_faceAt_5 rfl (lv_at hl 0 rfl) ?_
  refine lv_iload_n hx hb dX6_faceAt_6 rfl (lv_at hl 2 rfl) ?_
  obtain ⟨_, e3, h⟩ := cal_el h
  refine c_VV (As := [.int a2]) (rest := []) hC hP hS z1.1 (cE_6 z1.2) (C := RX6) (T := TX6) (N := 8) rfl (m_X6_checkCoordinate l G F S D a0 a2 e3) (cwV 1 hts (gWC wc_170 wc_171 wc_172 wc_66 wc_118) rfl rfl rfl (by decide +kernel) ⟨Nat.le_of_ble_eq_true rfl, Nat.le_of_ble_eq_true rfl⟩) rfl hl.1 rfl (Nat.le_of_ble_eq_true rfl) dX6_faceAt_7 (fun H locs hP hS => ?_)
  refine lv_aload_n hx hb dX6_faceAt_10 rfl (lv_at hl 0 rfl) ?_
  obtain ⟨p4, e5, h⟩ := cal_el h
  refine c_get (C := RX6) (T := TX6) (N := 8) (ref := "SegmentMap") (ci := 7) (v := .ref p4) hC hin_X6 hP z1.1 (cE_6 z1.2) rfl 6 (by decide) fl_X6_probe rfl (by show some (va_rf (S.2.2.1 a0 6)) = _; rw [e5]; rfl) dX6_faceAt_11 ?_
  refine lv_iload_n hx hb dX6_faceAt_14 rfl (lv_at hl 1 rfl) ?_
  refine lv_i2l (v := a1.toInt64) hx hb dX6_faceAt_15 rfl ?_
  refine lv_iload_n hx hb dX6_faceAt_16 rfl (lv_at hl 2 rfl) ?_
  refine lv_i2l (v := a2.toInt64) hx hb dX6_faceAt_17 rfl ?_
  refine lv_lconst (v := 1) hx hb dX6_faceAt_18 (by decide) ?_
  obtain ⟨z6, h⟩ := ckK_el h
  obtain ⟨D8, e7, h⟩ := cal_el h
  refine c_VV (As := [.long a1.toInt64, .long a2.toInt64, .long 1]) (rest := []) hC hP hS z6.1 (cE_2 z6.2) (C := RX2) (T := TX2) (N := 4) rfl (m_X2_put l G F S D D8 p4 a1.toInt64 a2.toInt64 1 e7) (cwV 3 hts (gWC wc_173 wc_174 wc_175 wc_131 wc_123) rfl rfl rfl (by decide +kernel) ⟨Nat.le_of_ble_eq_true rfl, Nat.le_of_ble_eq_true rfl⟩) rfl hl.1 rfl (Nat.le_of_ble_eq_true rfl) dX6_faceAt_19 (fun H locs hP hS => ?_)
  refine lv_iconst (v := 0) hx hb dX6_faceAt_22 (by decide) ?_
  refine lv_istore_n (lv' := [(3, .int 0), (0, .ref a0), (1, .int a1), (2, .int a2)]) hx hb dX6_faceAt_23 rfl hl (by decide) rfl (fun ls hl => ?_)
  exact L24 F _ _ _ D8 0 hP hS (lv_sub hl [1, 0] rfl) h

theorem dX4_spans_0 : decode cX4_spans 0 = .ok (.aload_n 0, 1) := by decide +kernel
theorem dX4_spans_1 : decode cX4_spans 1 = .ok (.getfield 9, 3) := by decide +kernel
theorem dX4_spans_4 : decode cX4_spans 4 = .ok (.aload_n 0, 1) := by decide +kernel
theorem dX4_spans_5 : decode cX4_spans 5 = .ok (.getfield 18, 3) := by decide +kernel
theorem dX4_spans_8 : decode cX4_spans 8 = .ok (.if_icmp .ge 23, 3) := by decide +kernel
theorem dX4_spans_11 : decode cX4_spans 11 = .ok (.aload_n 0, 1) := by decide +kernel
theorem dX4_spans_12 : decode cX4_spans 12 = .ok (.getfield 9, 3) := by decide +kernel
theorem dX4_spans_15 : decode cX4_spans 15 = .ok (.iload_n 1, 1) := by decide +kernel
theorem dX4_spans_16 : decode cX4_spans 16 = .ok (.if_icmp .gt 15, 3) := by decide +kernel
theorem dX4_spans_19 : decode cX4_spans 19 = .ok (.iload_n 1, 1) := by decide +kernel
theorem dX4_spans_20 : decode cX4_spans 20 = .ok (.aload_n 0, 1) := by decide +kernel
theorem dX4_spans_21 : decode cX4_spans 21 = .ok (.getfield 18, 3) := by decide +kernel
theorem dX4_spans_24 : decode cX4_spans 24 = .ok (.if_icmp .gt 7, 3) := by decide +kernel
theorem dX4_spans_27 : decode cX4_spans 27 = .ok (.iconst 1, 1) := by decide +kernel
theorem dX4_spans_28 : decode cX4_spans 28 = .ok (.goto 4, 3) := by decide +kernel
theorem dX4_spans_31 : decode cX4_spans 31 = .ok (.iconst 0, 1) := by decide +kernel
theorem dX4_spans_32 : decode cX4_spans 32 = .ok (.ireturn, 1) := by decide +kernel
def f_X4_spans (F : Nat) (S : CS) (D : CD) (a0 : Nat) (a1 : Int32) : Option Int32 := ckK S a0 4 <| (if (D.1 a0 2) ≤ (D.1 a0 0) then okB 0 (some 0) else (if a1 < (D.1 a0 0) then okB 0 (some 0) else (if (D.1 a0 2) < a1 then okB 0 (some 0) else okB 1 (some 1))))
set_option maxRecDepth 100000 in
set_option maxHeartbeats 4000000 in
theorem m_X4_spans (l : Launch) (G : cG) (F : Nat) (S : CS) (D : CD) (a0 : Nat) (a1 : Int32) (r : Int32) (h : f_X4_spans F S D a0 a1 = some r) : cMI l yX4_spans vX4_spans ({ frames := 0, cells := 0, slots := 0, locals := 0 }) G S [.ref a0, .int a1] D D r := by
  refine cBodyI (cc := cX4_spans) (maxL := 2) (ret := (some .boolean)) (own := RX4) (by decide) rfl rfl ?_
  intro sz p e s m below meth c hC hP
  have hC0 := hC
  obtain ⟨hx, hb, -, hts, hown, -, hml, -, -, -⟩ := hC0
  have hS : va_S (cA G S sz) s.heap s.heap [] := va_S.rf
  have hin_X4 : ∀ w ∈ wsX40, w ∈ vX4_spans := fun w h => List.mem_cons_of_mem _ (hWC4 w h)
  have fl_X4_startX := hts _ (List.mem_cons_of_mem _ wc_33)
  have fl_X4_endX := hts _ (List.mem_cons_of_mem _ wc_37)
  refine m_entry (Nat.le_of_ble_eq_true rfl) (fun ls hl => ?_)
  have hl : lv_has ls 2 [(0, .ref a0), (1, .int a1)] := hl
  unfold f_X4_spans at h
  refine lv_aload_n hx hb dX4_spans_0 rfl (lv_at hl 0 rfl) ?_
  obtain ⟨z1, h⟩ := ckK_el h
  refine c_get (C := RX4) (T := TX4) (N := 6) (ref := "SegmentMap$Segment") (ci := 5) (v := .int (D.1 a0 0)) hC hin_X4 hP z1.1 (cE_4 z1.2) rfl 0 (by decide) fl_X4_startX rfl rfl dX4_spans_1 ?_
  refine lv_aload_n hx hb dX4_spans_4 rfl (lv_at hl 0 rfl) ?_
  refine c_get (C := RX4) (T := TX4) (N := 6) (ref := "SegmentMap$Segment") (ci := 5) (v := .int (D.1 a0 2)) hC hin_X4 hP z1.1 (cE_4 z1.2) rfl 2 (by decide) fl_X4_endX rfl rfl dX4_spans_5 ?_
  refine lv_icmp_ge (tgt := 31) hx hb dX4_spans_8 (by decide) (fun u2 => ?_) (fun u2 => ?_)
  · have h := ite_t u2 h
    refine lv_iconst (v := 0) hx hb dX4_spans_31 (by decide) ?_
    obtain ⟨z3, h⟩ := okB_el h
    cases h
    exact c_zret hC hP hS z3 rfl dX4_spans_32
  · have h := ite_f u2 h
    refine lv_aload_n hx hb dX4_spans_11 rfl (lv_at hl 0 rfl) ?_
    refine c_get (C := RX4) (T := TX4) (N := 6) (ref := "SegmentMap$Segment") (ci := 5) (v := .int (D.1 a0 0)) hC hin_X4 hP z1.1 (cE_4 z1.2) rfl 0 (by decide) fl_X4_startX rfl rfl dX4_spans_12 ?_
    refine lv_iload_n hx hb dX4_spans_15 rfl (lv_at hl 1 rfl) ?_
    refine lv_icmp_gt (tgt := 31) hx hb dX4_spans_16 (by decide) (fun u4 => ?_) (fun u4 => ?_)
    · have h := ite_t u4 h
      refine lv_iconst (v := 0) hx hb dX4_spans_31 (by decide) ?_
      obtain ⟨z5, h⟩ := okB_el h
      cases h
      exact c_zret hC hP hS z5 rfl dX4_spans_32
    · have h := ite_f u4 h
      refine lv_iload_n hx hb dX4_spans_19 rfl (lv_at hl 1 rfl) ?_
      refine lv_aload_n hx hb dX4_spans_20 rfl (lv_at hl 0 rfl) ?_
      refine c_get (C := RX4) (T := TX4) (N := 6) (ref := "SegmentMap$Segment") (ci := 5) (v := .int (D.1 a0 2)) hC hin_X4 hP z1.1 (cE_4 z1.2) rfl 2 (by decide) fl_X4_endX rfl rfl dX4_spans_21 ?_
      refine lv_icmp_gt (tgt := 31) hx hb dX4_spans_24 (by decide) (fun u6 => ?_) (fun u6 => ?_)
      · have h := ite_t u6 h
        refine lv_iconst (v := 0) hx hb dX4_spans_31 (by decide) ?_
        obtain ⟨z7, h⟩ := okB_el h
        cases h
        exact c_zret hC hP hS z7 rfl dX4_spans_32
      · have h := ite_f u6 h
        refine lv_iconst (v := 1) hx hb dX4_spans_27 (by decide) ?_
        refine lv_goto (tgt := 32) hx hb dX4_spans_28 (by decide) ?_
        obtain ⟨z8, h⟩ := okB_el h
        cases h
        exact c_zret hC hP hS z8 rfl dX4_spans_32

theorem dX6_crossing_0 : decode cX6_crossing 0 = .ok (.aload_n 0, 1) := by decide +kernel
theorem dX6_crossing_1 : decode cX6_crossing 1 = .ok (.iload_n 1, 1) := by decide +kernel
theorem dX6_crossing_2 : decode cX6_crossing 2 = .ok (.invokevirtual 65, 3) := by decide +kernel
theorem dX6_crossing_5 : decode cX6_crossing 5 = .ok (.iconst 0, 1) := by decide +kernel
theorem dX6_crossing_6 : decode cX6_crossing 6 = .ok (.istore_n 2, 1) := by decide +kernel
theorem dX6_crossing_7 : decode cX6_crossing 7 = .ok (.iconst 0, 1) := by decide +kernel
theorem dX6_crossing_8 : decode cX6_crossing 8 = .ok (.istore_n 3, 1) := by decide +kernel
theorem dX6_crossing_9 : decode cX6_crossing 9 = .ok (.iload_n 3, 1) := by decide +kernel
theorem dX6_crossing_10 : decode cX6_crossing 10 = .ok (.aload_n 0, 1) := by decide +kernel
theorem dX6_crossing_11 : decode cX6_crossing 11 = .ok (.getfield 12, 3) := by decide +kernel
theorem dX6_crossing_14 : decode cX6_crossing 14 = .ok (.invokevirtual 75, 3) := by decide +kernel
theorem dX6_crossing_17 : decode cX6_crossing 17 = .ok (.if_icmp .ge 30, 3) := by decide +kernel
theorem dX6_crossing_20 : decode cX6_crossing 20 = .ok (.aload_n 0, 1) := by decide +kernel
theorem dX6_crossing_21 : decode cX6_crossing 21 = .ok (.getfield 12, 3) := by decide +kernel
theorem dX6_crossing_24 : decode cX6_crossing 24 = .ok (.iload_n 3, 1) := by decide +kernel
theorem dX6_crossing_25 : decode cX6_crossing 25 = .ok (.invokevirtual 172, 3) := by decide +kernel
theorem dX6_crossing_28 : decode cX6_crossing 28 = .ok (.checkcast 16, 3) := by decide +kernel
theorem dX6_crossing_31 : decode cX6_crossing 31 = .ok (.iload_n 1, 1) := by decide +kernel
theorem dX6_crossing_32 : decode cX6_crossing 32 = .ok (.invokevirtual 182, 3) := by decide +kernel
theorem dX6_crossing_35 : decode cX6_crossing 35 = .ok (.ifCond .eq 6, 3) := by decide +kernel
theorem dX6_crossing_38 : decode cX6_crossing 38 = .ok (.iinc 2 1, 3) := by decide +kernel
theorem dX6_crossing_41 : decode cX6_crossing 41 = .ok (.iinc 3 1, 3) := by decide +kernel
theorem dX6_crossing_44 : decode cX6_crossing 44 = .ok (.goto (-35), 3) := by decide +kernel
theorem dX6_crossing_47 : decode cX6_crossing 47 = .ok (.iload_n 2, 1) := by decide +kernel
theorem dX6_crossing_48 : decode cX6_crossing 48 = .ok (.ireturn, 1) := by decide +kernel
def f_X6_crossing_b41 (F : Nat) (S : CS) (D : CD) (a0 : Nat) (k9 : Int32 → Int32 → Int32 → Option Int32) (x1 : Int32) (x2 : Int32) (x3 : Int32) : Option Int32 := k9 x1 x2 (x3 + 1)
def f_X6_crossing_L9 (F : Nat) (S : CS) (D : CD) (a0 : Nat) : Nat → Int32 → Int32 → Int32 → Option Int32
  | 0, _, _, _ => none
  | n9 + 1, x1, x2, x3 => ckK S a0 6 <| cal (S.2.2.1 a0 0) fun p2 => ckK S p2 7 <| cal (f_Jx4a65c_size_8abf5 F S D p2) fun t6 => (if t6 ≤ x3 then some x2 else cal (S.2.2.1 a0 0) fun p8 => ckK S p8 7 <| cal (f_Jx4a65c_get_915e3 F S D p8 x3) fun t12 => ckK S t12 4 <| cal (f_X4_spans F S D t12 x1) fun t15 => (if t15 = 0 then f_X6_crossing_b41 F S D a0 ((f_X6_crossing_L9 F S D a0 n9)) x1 x2 x3 else f_X6_crossing_b41 F S D a0 ((f_X6_crossing_L9 F S D a0 n9)) x1 (x2 + 1) x3))
def f_X6_crossing (F : Nat) (S : CS) (D : CD) (a0 : Nat) (a1 : Int32) : Option Int32 := ckK S a0 6 <| cal (f_X6_checkCoordinate F S D a0 a1) fun _ => f_X6_crossing_L9 F S D a0 F a1 0 0
set_option maxRecDepth 100000 in
set_option maxHeartbeats 4000000 in
theorem m_X6_crossing (l : Launch) (G : cG) (F : Nat) (S : CS) (D : CD) (a0 : Nat) (a1 : Int32) (r : Int32) (h : f_X6_crossing F S D a0 a1 = some r) : cMI l yX6_crossing vX6_crossing ({ frames := 3, cells := 0, slots := 0, locals := 64 }) G S [.ref a0, .int a1] D D r := by
  refine cBodyI (cc := cX6_crossing) (maxL := 4) (ret := (some .int)) (own := RX6) (by decide) rfl rfl ?_
  intro sz p e s m below meth c hC hP
  have hC0 := hC
  obtain ⟨hx, hb, -, hts, hown, -, hml, -, -, -⟩ := hC0
  have hS : va_S (cA G S sz) s.heap s.heap [] := va_S.rf
  have hin_X6 : ∀ w ∈ wsX60, w ∈ vX6_crossing := fun w h => List.mem_cons_of_mem _ (hWC6 w h)
  have fl_X6_lines := hts _ (List.mem_cons_of_mem _ wc_3)
  have cl_X4 := hts _ (List.mem_cons_of_mem _ wc_24)
  have L9 : ∀ (n9 : Nat) (H : Heap) (locs : List Loc) (ls : Array Slot) (x1 : Int32) (x2 : Int32) (x3 : Int32), va_P G.1 vwCl (cW G S D) H → va_S (cA G S sz) s.heap H locs → lv_has ls 4 [(0, .ref a0), (1, .int x1), (2, .int x2), (3, .int x3)] → f_X6_crossing_L9 F S D a0 n9 x1 x2 x3 = some r → W p l e (headSpec vX6_crossing ({ frames := 3, cells := 0, slots := 0, locals := 64 })).room s m ([.ref a0, .int a1] : List Value).toArray below meth c H locs 0 0 (cQI below G S D sz ([.ref a0, .int a1] : List Value).toArray s r) (F0 m 9 ls []) := by
    intro n9
    induction n9 with
    | zero =>
      intro H locs ls x1 x2 x3 hP hS hl h
      rw [f_X6_crossing_L9] at h; cases h
    | succ n9 ih9 =>
      have b41 : ∀ (H : Heap) (locs : List Loc) (ls : Array Slot) (x1 : Int32) (x2 : Int32) (x3 : Int32), va_P G.1 vwCl (cW G S D) H → va_S (cA G S sz) s.heap H locs → lv_has ls 4 [(0, .ref a0), (1, .int x1), (2, .int x2), (3, .int x3)] → f_X6_crossing_b41 F S D a0 ((f_X6_crossing_L9 F S D a0 n9)) x1 x2 x3 = some r → W p l e (headSpec vX6_crossing ({ frames := 3, cells := 0, slots := 0, locals := 64 })).room s m ([.ref a0, .int a1] : List Value).toArray below meth c H locs 0 0 (cQI below G S D sz ([.ref a0, .int a1] : List Value).toArray s r) (F0 m 41 ls []) := by
        intro H locs ls x1 x2 x3 hP hS hl h
        unfold f_X6_crossing_b41 at h
        refine lv_iinc (v := x3 + 1) (lv' := [(3, .int (x3 + 1)), (0, .ref a0), (1, .int x1), (2, .int x2)]) hx hb dX6_crossing_41 hl (k := 3) rfl rfl (by decide) rfl (fun ls hl => ?_)
        refine lv_goto (tgt := 9) hx hb dX6_crossing_44 (by decide) ?_
        exact ih9 _ _ _ x1 x2 (x3 + 1) hP hS (lv_sub hl [1, 2, 3, 0] rfl) h
      intro H locs ls x1 x2 x3 hP hS hl h
      rw [f_X6_crossing_L9] at h
      refine lv_iload_n hx hb dX6_crossing_9 rfl (lv_at hl 3 rfl) ?_
      refine lv_aload_n hx hb dX6_crossing_10 rfl (lv_at hl 0 rfl) ?_
      obtain ⟨z1, h⟩ := ckK_el h
      obtain ⟨p2, e3, h⟩ := cal_el h
      refine c_get (C := RX6) (T := TX6) (N := 8) (ref := "SegmentMap") (ci := 7) (v := .ref p2) hC hin_X6 hP z1.1 (cE_6 z1.2) rfl 0 (by decide) fl_X6_lines rfl (by show some (va_rf (S.2.2.1 a0 0)) = _; rw [e3]; rfl) dX6_crossing_11 ?_
      obtain ⟨z4, h⟩ := ckK_el h
      obtain ⟨t6, e5, h⟩ := cal_el h
      refine c_VI (As := []) (rest := [.int x3]) hC hP hS z4.1 (cE_7 z4.2) (C := RJx4a65c) (T := TJx4a65c) (N := 3) rfl (m_Jx4a65c_size_8abf5 l G F S D p2 t6 e5) (cwV 0 hts (gWC wc_4 wc_5 wc_6 wc_7 wc_0) rfl rfl rfl (by decide +kernel) ⟨Nat.le_of_ble_eq_true rfl, Nat.le_of_ble_eq_true rfl⟩) rfl hl.1 rfl (Nat.le_of_ble_eq_true rfl) dX6_crossing_14 (fun H locs hP hS => ?_)
      refine lv_icmp_ge (tgt := 47) hx hb dX6_crossing_17 (by decide) (fun u7 => ?_) (fun u7 => ?_)
      · have h := ite_t u7 h
        refine lv_iload_n hx hb dX6_crossing_47 rfl (lv_at hl 2 rfl) ?_
        cases h
        exact c_iret hC hP hS rfl dX6_crossing_48
      · have h := ite_f u7 h
        refine lv_aload_n hx hb dX6_crossing_20 rfl (lv_at hl 0 rfl) ?_
        obtain ⟨p8, e9, h⟩ := cal_el h
        refine c_get (C := RX6) (T := TX6) (N := 8) (ref := "SegmentMap") (ci := 7) (v := .ref p8) hC hin_X6 hP z1.1 (cE_6 z1.2) rfl 0 (by decide) fl_X6_lines rfl (by show some (va_rf (S.2.2.1 a0 0)) = _; rw [e9]; rfl) dX6_crossing_21 ?_
        refine lv_iload_n hx hb dX6_crossing_24 rfl (lv_at hl 3 rfl) ?_
        obtain ⟨z10, h⟩ := ckK_el h
        obtain ⟨t12, e11, h⟩ := cal_el h
        refine c_VA (As := [.int x3]) (rest := []) hC hP hS z10.1 (cE_7 z10.2) (C := RJx4a65c) (T := TJx4a65c) (N := 3) rfl (m_Jx4a65c_get_915e3 l G F S D p8 x3 t12 e11) (cwV 1 hts (gWC wc_26 wc_27 wc_28 wc_7 wc_16) rfl rfl rfl (by decide +kernel) ⟨Nat.le_of_ble_eq_true rfl, Nat.le_of_ble_eq_true rfl⟩) rfl hl.1 rfl (Nat.le_of_ble_eq_true rfl) dX6_crossing_25 (fun H locs hP hS => ?_)
        obtain ⟨z13, h⟩ := ckK_el h
        refine c_cast (C := RX4) (T := TX4) (N := 6) (ci := 5) hC hP z13.1 (cE_4 z13.2) rfl cl_X4 dX6_crossing_28 ?_
        refine lv_iload_n hx hb dX6_crossing_31 rfl (lv_at hl 1 rfl) ?_
        obtain ⟨t15, e14, h⟩ := cal_el h
        refine c_VI (As := [.int x1]) (rest := []) hC hP hS z13.1 (cE_4 z13.2) (C := RX4) (T := TX4) (N := 6) rfl (m_X4_spans l G F S D t12 x1 t15 e14) (cwV 1 hts (gWC wc_184 wc_185 wc_186 wc_48 wc_182) rfl rfl rfl (by decide +kernel) ⟨Nat.le_of_ble_eq_true rfl, Nat.le_of_ble_eq_true rfl⟩) rfl hl.1 rfl (Nat.le_of_ble_eq_true rfl) dX6_crossing_32 (fun H locs hP hS => ?_)
        refine lv_if_eq (tgt := 41) hx hb dX6_crossing_35 (by decide) (fun u16 => ?_) (fun u16 => ?_)
        · have h := ite_t u16 h
          exact b41 _ _ _ x1 x2 x3 hP hS (lv_sub hl [0, 1, 2, 3] rfl) h
        · have h := ite_f u16 h
          refine lv_iinc (v := x2 + 1) (lv' := [(2, .int (x2 + 1)), (0, .ref a0), (1, .int x1), (3, .int x3)]) hx hb dX6_crossing_38 hl (k := 2) rfl rfl (by decide) rfl (fun ls hl => ?_)
          exact b41 _ _ _ x1 (x2 + 1) x3 hP hS (lv_sub hl [1, 2, 0, 3] rfl) h
  refine m_entry (Nat.le_of_ble_eq_true rfl) (fun ls hl => ?_)
  have hl : lv_has ls 4 [(0, .ref a0), (1, .int a1)] := hl
  unfold f_X6_crossing at h
  refine lv_aload_n hx hb dX6_crossing_0 rfl (lv_at hl 0 rfl) ?_
  refine lv_iload_n hx hb dX6_crossing_1 rfl (lv_at hl 1 rfl) ?_
  obtain ⟨z1, h⟩ := ckK_el h
  obtain ⟨_, e2, h⟩ := cal_el h
  refine c_VV (As := [.int a1]) (rest := []) hC hP hS z1.1 (cE_6 z1.2) (C := RX6) (T := TX6) (N := 8) rfl (m_X6_checkCoordinate l G F S D a0 a1 e2) (cwV 1 hts (gWC wc_170 wc_171 wc_172 wc_66 wc_118) rfl rfl rfl (by decide +kernel) ⟨Nat.le_of_ble_eq_true rfl, Nat.le_of_ble_eq_true rfl⟩) rfl hl.1 rfl (Nat.le_of_ble_eq_true rfl) dX6_crossing_2 (fun H locs hP hS => ?_)
  refine lv_iconst (v := 0) hx hb dX6_crossing_5 (by decide) ?_
  refine lv_istore_n (lv' := [(2, .int 0), (0, .ref a0), (1, .int a1)]) hx hb dX6_crossing_6 rfl hl (by decide) rfl (fun ls hl => ?_)
  refine lv_iconst (v := 0) hx hb dX6_crossing_7 (by decide) ?_
  refine lv_istore_n (lv' := [(3, .int 0), (2, .int 0), (0, .ref a0), (1, .int a1)]) hx hb dX6_crossing_8 rfl hl (by decide) rfl (fun ls hl => ?_)
  exact L9 F _ _ _ a1 0 0 hP hS (lv_sub hl [2, 3, 1, 0] rfl) h

theorem dX6_isBefore_0 : decode cX6_isBefore 0 = .ok (.aload_n 0, 1) := by decide +kernel
theorem dX6_isBefore_1 : decode cX6_isBefore 1 = .ok (.iload_n 1, 1) := by decide +kernel
theorem dX6_isBefore_2 : decode cX6_isBefore 2 = .ok (.invokevirtual 101, 3) := by decide +kernel
theorem dX6_isBefore_5 : decode cX6_isBefore 5 = .ok (.astore 4, 2) := by decide +kernel
theorem dX6_isBefore_7 : decode cX6_isBefore 7 = .ok (.aload_n 0, 1) := by decide +kernel
theorem dX6_isBefore_8 : decode cX6_isBefore 8 = .ok (.iload_n 2, 1) := by decide +kernel
theorem dX6_isBefore_9 : decode cX6_isBefore 9 = .ok (.invokevirtual 101, 3) := by decide +kernel
theorem dX6_isBefore_12 : decode cX6_isBefore 12 = .ok (.astore 5, 2) := by decide +kernel
theorem dX6_isBefore_14 : decode cX6_isBefore 14 = .ok (.aload 4, 2) := by decide +kernel
theorem dX6_isBefore_16 : decode cX6_isBefore 16 = .ok (.aload 5, 2) := by decide +kernel
theorem dX6_isBefore_18 : decode cX6_isBefore 18 = .ok (.aload_n 3, 1) := by decide +kernel
theorem dX6_isBefore_19 : decode cX6_isBefore 19 = .ok (.invokevirtual 199, 3) := by decide +kernel
theorem dX6_isBefore_22 : decode cX6_isBefore 22 = .ok (.istore 6, 2) := by decide +kernel
theorem dX6_isBefore_24 : decode cX6_isBefore 24 = .ok (.iload 6, 2) := by decide +kernel
theorem dX6_isBefore_26 : decode cX6_isBefore 26 = .ok (.ifCond .eq 14, 3) := by decide +kernel
theorem dX6_isBefore_29 : decode cX6_isBefore 29 = .ok (.iload 6, 2) := by decide +kernel
theorem dX6_isBefore_31 : decode cX6_isBefore 31 = .ok (.ifCond .ge 7, 3) := by decide +kernel
theorem dX6_isBefore_34 : decode cX6_isBefore 34 = .ok (.iconst 1, 1) := by decide +kernel
theorem dX6_isBefore_35 : decode cX6_isBefore 35 = .ok (.goto 4, 3) := by decide +kernel
theorem dX6_isBefore_38 : decode cX6_isBefore 38 = .ok (.iconst 0, 1) := by decide +kernel
theorem dX6_isBefore_39 : decode cX6_isBefore 39 = .ok (.ireturn, 1) := by decide +kernel
theorem dX6_isBefore_40 : decode cX6_isBefore 40 = .ok (.aload 4, 2) := by decide +kernel
theorem dX6_isBefore_42 : decode cX6_isBefore 42 = .ok (.aload 5, 2) := by decide +kernel
theorem dX6_isBefore_44 : decode cX6_isBefore 44 = .ok (.invokevirtual 203, 3) := by decide +kernel
theorem dX6_isBefore_47 : decode cX6_isBefore 47 = .ok (.istore 7, 2) := by decide +kernel
theorem dX6_isBefore_49 : decode cX6_isBefore 49 = .ok (.iload 7, 2) := by decide +kernel
theorem dX6_isBefore_51 : decode cX6_isBefore 51 = .ok (.ifCond .lt 13, 3) := by decide +kernel
theorem dX6_isBefore_54 : decode cX6_isBefore 54 = .ok (.iload 7, 2) := by decide +kernel
theorem dX6_isBefore_56 : decode cX6_isBefore 56 = .ok (.ifCond .ne 12, 3) := by decide +kernel
theorem dX6_isBefore_59 : decode cX6_isBefore 59 = .ok (.iload_n 1, 1) := by decide +kernel
theorem dX6_isBefore_60 : decode cX6_isBefore 60 = .ok (.iload_n 2, 1) := by decide +kernel
theorem dX6_isBefore_61 : decode cX6_isBefore 61 = .ok (.if_icmp .ge 7, 3) := by decide +kernel
theorem dX6_isBefore_64 : decode cX6_isBefore 64 = .ok (.iconst 1, 1) := by decide +kernel
theorem dX6_isBefore_65 : decode cX6_isBefore 65 = .ok (.goto 4, 3) := by decide +kernel
theorem dX6_isBefore_68 : decode cX6_isBefore 68 = .ok (.iconst 0, 1) := by decide +kernel
theorem dX6_isBefore_69 : decode cX6_isBefore 69 = .ok (.ireturn, 1) := by decide +kernel
def f_X6_isBefore (F : Nat) (S : CS) (D : CD) (a0 : Nat) (a1 : Int32) (a2 : Int32) (a3 : Nat) : Option Int32 := ckK S a0 6 <| cal (f_X6_lineAt F S D a0 a1) fun t3 => cal (f_X6_lineAt F S D a0 a2) fun t5 => ckK S t3 4 <| cal (f_X4_compareHeights F S D t3 t5 a3) fun t8 => (if t8 = 0 then cal (f_X4_compareSlopes F S D t3 t5) fun t11 => (if t11 < 0 then okB 1 (some 1) else (if t11 = 0 then (if a2 ≤ a1 then okB 0 (some 0) else okB 1 (some 1)) else okB 0 (some 0))) else (if 0 ≤ t8 then okB 0 (some 0) else okB 1 (some 1)))
set_option maxRecDepth 100000 in
set_option maxHeartbeats 4000000 in
theorem m_X6_isBefore (l : Launch) (G : cG) (F : Nat) (S : CS) (D : CD) (a0 : Nat) (a1 : Int32) (a2 : Int32) (a3 : Nat) (r : Int32) (h : f_X6_isBefore F S D a0 a1 a2 a3 = some r) : cMI l yX6_isBefore vX6_isBefore ({ frames := 4, cells := 0, slots := 0, locals := 85 }) G S [.ref a0, .int a1, .int a2, .ref a3] D D r := by
  refine cBodyI (cc := cX6_isBefore) (maxL := 8) (ret := (some .boolean)) (own := RX6) (by decide) rfl rfl ?_
  intro sz p e s m below meth c hC hP
  have hC0 := hC
  obtain ⟨hx, hb, -, hts, hown, -, hml, -, -, -⟩ := hC0
  have hS : va_S (cA G S sz) s.heap s.heap [] := va_S.rf
  refine m_entry (Nat.le_of_ble_eq_true rfl) (fun ls hl => ?_)
  have hl : lv_has ls 8 [(0, .ref a0), (1, .int a1), (2, .int a2), (3, .ref a3)] := hl
  unfold f_X6_isBefore at h
  refine lv_aload_n hx hb dX6_isBefore_0 rfl (lv_at hl 0 rfl) ?_
  refine lv_iload_n hx hb dX6_isBefore_1 rfl (lv_at hl 1 rfl) ?_
  obtain ⟨z1, h⟩ := ckK_el h
  obtain ⟨t3, e2, h⟩ := cal_el h
  refine c_VA (As := [.int a1]) (rest := []) hC hP hS z1.1 (cE_6 z1.2) (C := RX6) (T := TX6) (N := 8) rfl (m_X6_lineAt l G F S D a0 a1 t3 e2) (cwV 1 hts (gWC wc_67 wc_68 wc_69 wc_66 wc_23) rfl rfl rfl (by decide +kernel) ⟨Nat.le_of_ble_eq_true rfl, Nat.le_of_ble_eq_true rfl⟩) rfl hl.1 rfl (Nat.le_of_ble_eq_true rfl) dX6_isBefore_2 (fun H locs hP hS => ?_)
  refine lv_astore (lv' := [(4, .ref t3), (0, .ref a0), (1, .int a1), (2, .int a2), (3, .ref a3)]) hx hb dX6_isBefore_5 hl (by decide) rfl (fun ls hl => ?_)
  refine lv_aload_n hx hb dX6_isBefore_7 rfl (lv_at hl 1 rfl) ?_
  refine lv_iload_n hx hb dX6_isBefore_8 rfl (lv_at hl 3 rfl) ?_
  obtain ⟨t5, e4, h⟩ := cal_el h
  refine c_VA (As := [.int a2]) (rest := []) hC hP hS z1.1 (cE_6 z1.2) (C := RX6) (T := TX6) (N := 8) rfl (m_X6_lineAt l G F S D a0 a2 t5 e4) (cwV 1 hts (gWC wc_67 wc_68 wc_69 wc_66 wc_23) rfl rfl rfl (by decide +kernel) ⟨Nat.le_of_ble_eq_true rfl, Nat.le_of_ble_eq_true rfl⟩) rfl hl.1 rfl (Nat.le_of_ble_eq_true rfl) dX6_isBefore_9 (fun H locs hP hS => ?_)
  refine lv_astore (lv' := [(5, .ref t5), (4, .ref t3), (0, .ref a0), (1, .int a1), (2, .int a2), (3, .ref a3)]) hx hb dX6_isBefore_12 hl (by decide) rfl (fun ls hl => ?_)
  refine lv_aload hx hb dX6_isBefore_14 (lv_at hl 1 rfl) ?_
  refine lv_aload hx hb dX6_isBefore_16 (lv_at hl 0 rfl) ?_
  refine lv_aload_n hx hb dX6_isBefore_18 rfl (lv_at hl 5 rfl) ?_
  obtain ⟨z6, h⟩ := ckK_el h
  obtain ⟨t8, e7, h⟩ := cal_el h
  refine c_VI (As := [.ref t5, .ref a3]) (rest := []) hC hP hS z6.1 (cE_4 z6.2) (C := RX4) (T := TX4) (N := 6) rfl (m_X4_compareHeights l G F S D t3 t5 a3 t8 e7) (cwV 2 hts (gWC wc_155 wc_156 wc_157 wc_48 wc_152) rfl rfl rfl (by decide +kernel) ⟨Nat.le_of_ble_eq_true rfl, Nat.le_of_ble_eq_true rfl⟩) rfl hl.1 rfl (Nat.le_of_ble_eq_true rfl) dX6_isBefore_19 (fun H locs hP hS => ?_)
  refine lv_istore (lv' := [(6, .int t8), (5, .ref t5), (4, .ref t3), (0, .ref a0), (1, .int a1), (2, .int a2), (3, .ref a3)]) hx hb dX6_isBefore_22 hl (by decide) rfl (fun ls hl => ?_)
  refine lv_iload hx hb dX6_isBefore_24 (lv_at hl 0 rfl) ?_
  refine lv_if_eq (tgt := 40) hx hb dX6_isBefore_26 (by decide) (fun u9 => ?_) (fun u9 => ?_)
  · have h := ite_t u9 h
    refine lv_aload hx hb dX6_isBefore_40 (lv_at hl 2 rfl) ?_
    refine lv_aload hx hb dX6_isBefore_42 (lv_at hl 1 rfl) ?_
    obtain ⟨t11, e10, h⟩ := cal_el h
    refine c_VI (As := [.ref t5]) (rest := []) hC hP hS z6.1 (cE_4 z6.2) (C := RX4) (T := TX4) (N := 6) rfl (m_X4_compareSlopes l G F S D t3 t5 t11 e10) (cwV 1 hts (gWC wc_158 wc_159 wc_160 wc_48 wc_153) rfl rfl rfl (by decide +kernel) ⟨Nat.le_of_ble_eq_true rfl, Nat.le_of_ble_eq_true rfl⟩) rfl hl.1 rfl (Nat.le_of_ble_eq_true rfl) dX6_isBefore_44 (fun H locs hP hS => ?_)
    refine lv_istore (lv' := [(7, .int t11), (6, .int t8), (5, .ref t5), (4, .ref t3), (0, .ref a0), (1, .int a1), (2, .int a2), (3, .ref a3)]) hx hb dX6_isBefore_47 hl (by decide) rfl (fun ls hl => ?_)
    refine lv_iload hx hb dX6_isBefore_49 (lv_at hl 0 rfl) ?_
    refine lv_if_lt (tgt := 64) hx hb dX6_isBefore_51 (by decide) (fun u12 => ?_) (fun u12 => ?_)
    · have h := ite_t u12 h
      refine lv_iconst (v := 1) hx hb dX6_isBefore_64 (by decide) ?_
      refine lv_goto (tgt := 69) hx hb dX6_isBefore_65 (by decide) ?_
      obtain ⟨z13, h⟩ := okB_el h
      cases h
      exact c_zret hC hP hS z13 rfl dX6_isBefore_69
    · have h := ite_f u12 h
      refine lv_iload hx hb dX6_isBefore_54 (lv_at hl 0 rfl) ?_
      refine lv_if_ne (tgt := 68) hx hb dX6_isBefore_56 (by decide) (fun u14 => ?_) (fun u14 => ?_)
      · have h := ite_f u14 h
        refine lv_iconst (v := 0) hx hb dX6_isBefore_68 (by decide) ?_
        obtain ⟨z15, h⟩ := okB_el h
        cases h
        exact c_zret hC hP hS z15 rfl dX6_isBefore_69
      · have h := ite_t u14 h
        refine lv_iload_n hx hb dX6_isBefore_59 rfl (lv_at hl 5 rfl) ?_
        refine lv_iload_n hx hb dX6_isBefore_60 rfl (lv_at hl 6 rfl) ?_
        refine lv_icmp_ge (tgt := 68) hx hb dX6_isBefore_61 (by decide) (fun u16 => ?_) (fun u16 => ?_)
        · have h := ite_t u16 h
          refine lv_iconst (v := 0) hx hb dX6_isBefore_68 (by decide) ?_
          obtain ⟨z17, h⟩ := okB_el h
          cases h
          exact c_zret hC hP hS z17 rfl dX6_isBefore_69
        · have h := ite_f u16 h
          refine lv_iconst (v := 1) hx hb dX6_isBefore_64 (by decide) ?_
          refine lv_goto (tgt := 69) hx hb dX6_isBefore_65 (by decide) ?_
          obtain ⟨z18, h⟩ := okB_el h
          cases h
          exact c_zret hC hP hS z18 rfl dX6_isBefore_69
  · have h := ite_f u9 h
    refine lv_iload hx hb dX6_isBefore_29 (lv_at hl 0 rfl) ?_
    refine lv_if_ge (tgt := 38) hx hb dX6_isBefore_31 (by decide) (fun u19 => ?_) (fun u19 => ?_)
    · have h := ite_t u19 h
      refine lv_iconst (v := 0) hx hb dX6_isBefore_38 (by decide) ?_
      obtain ⟨z20, h⟩ := okB_el h
      cases h
      exact c_zret hC hP hS z20 rfl dX6_isBefore_39
    · have h := ite_f u19 h
      refine lv_iconst (v := 1) hx hb dX6_isBefore_34 (by decide) ?_
      refine lv_goto (tgt := 39) hx hb dX6_isBefore_35 (by decide) ?_
      obtain ⟨z21, h⟩ := okB_el h
      cases h
      exact c_zret hC hP hS z21 rfl dX6_isBefore_39

theorem dX6_placeAt_0 : decode cX6_placeAt 0 = .ok (.aload_n 0, 1) := by decide +kernel
theorem dX6_placeAt_1 : decode cX6_placeAt 1 = .ok (.getfield 58, 3) := by decide +kernel
theorem dX6_placeAt_4 : decode cX6_placeAt 4 = .ok (.iload_n 1, 1) := by decide +kernel
theorem dX6_placeAt_5 : decode cX6_placeAt 5 = .ok (.i2l, 1) := by decide +kernel
theorem dX6_placeAt_6 : decode cX6_placeAt 6 = .ok (.lconst 0, 1) := by decide +kernel
theorem dX6_placeAt_7 : decode cX6_placeAt 7 = .ok (.lconst 1, 1) := by decide +kernel
theorem dX6_placeAt_8 : decode cX6_placeAt 8 = .ok (.invokevirtual 168, 3) := by decide +kernel
theorem dX6_placeAt_11 : decode cX6_placeAt 11 = .ok (.iconst 0, 1) := by decide +kernel
theorem dX6_placeAt_12 : decode cX6_placeAt 12 = .ok (.istore_n 3, 1) := by decide +kernel
theorem dX6_placeAt_13 : decode cX6_placeAt 13 = .ok (.iconst 0, 1) := by decide +kernel
theorem dX6_placeAt_14 : decode cX6_placeAt 14 = .ok (.istore 4, 2) := by decide +kernel
theorem dX6_placeAt_16 : decode cX6_placeAt 16 = .ok (.iload 4, 2) := by decide +kernel
theorem dX6_placeAt_18 : decode cX6_placeAt 18 = .ok (.aload_n 0, 1) := by decide +kernel
theorem dX6_placeAt_19 : decode cX6_placeAt 19 = .ok (.getfield 12, 3) := by decide +kernel
theorem dX6_placeAt_22 : decode cX6_placeAt 22 = .ok (.invokevirtual 75, 3) := by decide +kernel
theorem dX6_placeAt_25 : decode cX6_placeAt 25 = .ok (.if_icmp .ge 45, 3) := by decide +kernel
theorem dX6_placeAt_28 : decode cX6_placeAt 28 = .ok (.aload_n 0, 1) := by decide +kernel
theorem dX6_placeAt_29 : decode cX6_placeAt 29 = .ok (.getfield 12, 3) := by decide +kernel
theorem dX6_placeAt_32 : decode cX6_placeAt 32 = .ok (.iload 4, 2) := by decide +kernel
theorem dX6_placeAt_34 : decode cX6_placeAt 34 = .ok (.invokevirtual 172, 3) := by decide +kernel
theorem dX6_placeAt_37 : decode cX6_placeAt 37 = .ok (.checkcast 16, 3) := by decide +kernel
theorem dX6_placeAt_40 : decode cX6_placeAt 40 = .ok (.iload_n 1, 1) := by decide +kernel
theorem dX6_placeAt_41 : decode cX6_placeAt 41 = .ok (.invokevirtual 182, 3) := by decide +kernel
theorem dX6_placeAt_44 : decode cX6_placeAt 44 = .ok (.ifCond .eq 20, 3) := by decide +kernel
theorem dX6_placeAt_47 : decode cX6_placeAt 47 = .ok (.aload_n 0, 1) := by decide +kernel
theorem dX6_placeAt_48 : decode cX6_placeAt 48 = .ok (.iload 4, 2) := by decide +kernel
theorem dX6_placeAt_50 : decode cX6_placeAt 50 = .ok (.iload_n 2, 1) := by decide +kernel
theorem dX6_placeAt_51 : decode cX6_placeAt 51 = .ok (.aload_n 0, 1) := by decide +kernel
theorem dX6_placeAt_52 : decode cX6_placeAt 52 = .ok (.getfield 58, 3) := by decide +kernel
theorem dX6_placeAt_55 : decode cX6_placeAt 55 = .ok (.invokevirtual 195, 3) := by decide +kernel
theorem dX6_placeAt_58 : decode cX6_placeAt 58 = .ok (.ifCond .eq 6, 3) := by decide +kernel
theorem dX6_placeAt_61 : decode cX6_placeAt 61 = .ok (.iinc 3 1, 3) := by decide +kernel
theorem dX6_placeAt_64 : decode cX6_placeAt 64 = .ok (.iinc 4 1, 3) := by decide +kernel
theorem dX6_placeAt_67 : decode cX6_placeAt 67 = .ok (.goto (-51), 3) := by decide +kernel
theorem dX6_placeAt_70 : decode cX6_placeAt 70 = .ok (.iload_n 3, 1) := by decide +kernel
theorem dX6_placeAt_71 : decode cX6_placeAt 71 = .ok (.ireturn, 1) := by decide +kernel
def f_X6_placeAt_b64 (F : Nat) (S : CS) (a0 : Nat) (k16 : CD → Int32 → Int32 → Int32 → Int32 → Option (CD × Int32)) (D : CD) (x1 : Int32) (x2 : Int32) (x3 : Int32) (x4 : Int32) : Option (CD × Int32) := k16 D x1 x2 x3 (x4 + 1)
def f_X6_placeAt_L16 (F : Nat) (S : CS) (a0 : Nat) : Nat → CD → Int32 → Int32 → Int32 → Int32 → Option (CD × Int32)
  | 0, _, _, _, _, _ => none
  | n16 + 1, D, x1, x2, x3, x4 => ckK S a0 6 <| cal (S.2.2.1 a0 0) fun p2 => ckK S p2 7 <| cal (f_Jx4a65c_size_8abf5 F S D p2) fun t6 => (if t6 ≤ x4 then some (D, x3) else cal (S.2.2.1 a0 0) fun p8 => ckK S p8 7 <| cal (f_Jx4a65c_get_915e3 F S D p8 x4) fun t12 => ckK S t12 4 <| cal (f_X4_spans F S D t12 x1) fun t15 => (if t15 = 0 then f_X6_placeAt_b64 F S a0 ((f_X6_placeAt_L16 F S a0 n16)) D x1 x2 x3 x4 else cal (S.2.2.1 a0 6) fun p17 => cal (f_X6_isBefore F S D a0 x4 x2 p17) fun t20 => (if t20 = 0 then f_X6_placeAt_b64 F S a0 ((f_X6_placeAt_L16 F S a0 n16)) D x1 x2 x3 x4 else f_X6_placeAt_b64 F S a0 ((f_X6_placeAt_L16 F S a0 n16)) D x1 x2 (x3 + 1) x4)))
def f_X6_placeAt (F : Nat) (S : CS) (D : CD) (a0 : Nat) (a1 : Int32) (a2 : Int32) : Option (CD × Int32) := ckK S a0 6 <| cal (S.2.2.1 a0 6) fun p2 => ckK S p2 2 <| cal (f_X2_put F S D p2 a1.toInt64 0 1) fun D6 => f_X6_placeAt_L16 F S a0 F D6 a1 a2 0 0
set_option maxRecDepth 100000 in
set_option maxHeartbeats 4000000 in
theorem m_X6_placeAt (l : Launch) (G : cG) (F : Nat) (S : CS) (D D2 : CD) (a0 : Nat) (a1 : Int32) (a2 : Int32) (r : Int32) (h : f_X6_placeAt F S D a0 a1 a2 = some (D2, r)) : cMI l yX6_placeAt vX6_placeAt ({ frames := 5, cells := 0, slots := 0, locals := 112 }) G S [.ref a0, .int a1, .int a2] D D2 r := by
  refine cBodyI (cc := cX6_placeAt) (maxL := 5) (ret := (some .int)) (own := RX6) (by decide) rfl rfl ?_
  intro sz p e s m below meth c hC hP
  have hC0 := hC
  obtain ⟨hx, hb, -, hts, hown, -, hml, -, -, -⟩ := hC0
  have hS : va_S (cA G S sz) s.heap s.heap [] := va_S.rf
  have hin_X6 : ∀ w ∈ wsX60, w ∈ vX6_placeAt := fun w h => List.mem_cons_of_mem _ (hWC6 w h)
  have fl_X6_probe := hts _ (List.mem_cons_of_mem _ wc_169)
  have fl_X6_lines := hts _ (List.mem_cons_of_mem _ wc_3)
  have cl_X4 := hts _ (List.mem_cons_of_mem _ wc_24)
  have L16 : ∀ (n16 : Nat) (H : Heap) (locs : List Loc) (ls : Array Slot) (D : CD) (x1 : Int32) (x2 : Int32) (x3 : Int32) (x4 : Int32), va_P G.1 vwCl (cW G S D) H → va_S (cA G S sz) s.heap H locs → lv_has ls 5 [(0, .ref a0), (1, .int x1), (2, .int x2), (3, .int x3), (4, .int x4)] → f_X6_placeAt_L16 F S a0 n16 D x1 x2 x3 x4 = some (D2, r) → W p l e (headSpec vX6_placeAt ({ frames := 5, cells := 0, slots := 0, locals := 112 })).room s m ([.ref a0, .int a1, .int a2] : List Value).toArray below meth c H locs 0 0 (cQI below G S D2 sz ([.ref a0, .int a1, .int a2] : List Value).toArray s r) (F0 m 16 ls []) := by
    intro n16
    induction n16 with
    | zero =>
      intro H locs ls D x1 x2 x3 x4 hP hS hl h
      rw [f_X6_placeAt_L16] at h; cases h
    | succ n16 ih16 =>
      have b64 : ∀ (H : Heap) (locs : List Loc) (ls : Array Slot) (D : CD) (x1 : Int32) (x2 : Int32) (x3 : Int32) (x4 : Int32), va_P G.1 vwCl (cW G S D) H → va_S (cA G S sz) s.heap H locs → lv_has ls 5 [(0, .ref a0), (1, .int x1), (2, .int x2), (3, .int x3), (4, .int x4)] → f_X6_placeAt_b64 F S a0 ((f_X6_placeAt_L16 F S a0 n16)) D x1 x2 x3 x4 = some (D2, r) → W p l e (headSpec vX6_placeAt ({ frames := 5, cells := 0, slots := 0, locals := 112 })).room s m ([.ref a0, .int a1, .int a2] : List Value).toArray below meth c H locs 0 0 (cQI below G S D2 sz ([.ref a0, .int a1, .int a2] : List Value).toArray s r) (F0 m 64 ls []) := by
        intro H locs ls D x1 x2 x3 x4 hP hS hl h
        unfold f_X6_placeAt_b64 at h
        refine lv_iinc (v := x4 + 1) (lv' := [(4, .int (x4 + 1)), (0, .ref a0), (1, .int x1), (2, .int x2), (3, .int x3)]) hx hb dX6_placeAt_64 hl (k := 4) rfl rfl (by decide) rfl (fun ls hl => ?_)
        refine lv_goto (tgt := 16) hx hb dX6_placeAt_67 (by decide) ?_
        exact ih16 _ _ _ D x1 x2 x3 (x4 + 1) hP hS (lv_sub hl [1, 2, 3, 4, 0] rfl) h
      intro H locs ls D x1 x2 x3 x4 hP hS hl h
      rw [f_X6_placeAt_L16] at h
      refine lv_iload hx hb dX6_placeAt_16 (lv_at hl 4 rfl) ?_
      refine lv_aload_n hx hb dX6_placeAt_18 rfl (lv_at hl 0 rfl) ?_
      obtain ⟨z1, h⟩ := ckK_el h
      obtain ⟨p2, e3, h⟩ := cal_el h
      refine c_get (C := RX6) (T := TX6) (N := 8) (ref := "SegmentMap") (ci := 7) (v := .ref p2) hC hin_X6 hP z1.1 (cE_6 z1.2) rfl 0 (by decide) fl_X6_lines rfl (by show some (va_rf (S.2.2.1 a0 0)) = _; rw [e3]; rfl) dX6_placeAt_19 ?_
      obtain ⟨z4, h⟩ := ckK_el h
      obtain ⟨t6, e5, h⟩ := cal_el h
      refine c_VI (As := []) (rest := [.int x4]) hC hP hS z4.1 (cE_7 z4.2) (C := RJx4a65c) (T := TJx4a65c) (N := 3) rfl (m_Jx4a65c_size_8abf5 l G F S D p2 t6 e5) (cwV 0 hts (gWC wc_4 wc_5 wc_6 wc_7 wc_0) rfl rfl rfl (by decide +kernel) ⟨Nat.le_of_ble_eq_true rfl, Nat.le_of_ble_eq_true rfl⟩) rfl hl.1 rfl (Nat.le_of_ble_eq_true rfl) dX6_placeAt_22 (fun H locs hP hS => ?_)
      refine lv_icmp_ge (tgt := 70) hx hb dX6_placeAt_25 (by decide) (fun u7 => ?_) (fun u7 => ?_)
      · have h := ite_t u7 h
        refine lv_iload_n hx hb dX6_placeAt_70 rfl (lv_at hl 3 rfl) ?_
        cases h
        exact c_iret hC hP hS rfl dX6_placeAt_71
      · have h := ite_f u7 h
        refine lv_aload_n hx hb dX6_placeAt_28 rfl (lv_at hl 0 rfl) ?_
        obtain ⟨p8, e9, h⟩ := cal_el h
        refine c_get (C := RX6) (T := TX6) (N := 8) (ref := "SegmentMap") (ci := 7) (v := .ref p8) hC hin_X6 hP z1.1 (cE_6 z1.2) rfl 0 (by decide) fl_X6_lines rfl (by show some (va_rf (S.2.2.1 a0 0)) = _; rw [e9]; rfl) dX6_placeAt_29 ?_
        refine lv_iload hx hb dX6_placeAt_32 (lv_at hl 4 rfl) ?_
        obtain ⟨z10, h⟩ := ckK_el h
        obtain ⟨t12, e11, h⟩ := cal_el h
        refine c_VA (As := [.int x4]) (rest := []) hC hP hS z10.1 (cE_7 z10.2) (C := RJx4a65c) (T := TJx4a65c) (N := 3) rfl (m_Jx4a65c_get_915e3 l G F S D p8 x4 t12 e11) (cwV 1 hts (gWC wc_26 wc_27 wc_28 wc_7 wc_16) rfl rfl rfl (by decide +kernel) ⟨Nat.le_of_ble_eq_true rfl, Nat.le_of_ble_eq_true rfl⟩) rfl hl.1 rfl (Nat.le_of_ble_eq_true rfl) dX6_placeAt_34 (fun H locs hP hS => ?_)
        obtain ⟨z13, h⟩ := ckK_el h
        refine c_cast (C := RX4) (T := TX4) (N := 6) (ci := 5) hC hP z13.1 (cE_4 z13.2) rfl cl_X4 dX6_placeAt_37 ?_
        refine lv_iload_n hx hb dX6_placeAt_40 rfl (lv_at hl 1 rfl) ?_
        obtain ⟨t15, e14, h⟩ := cal_el h
        refine c_VI (As := [.int x1]) (rest := []) hC hP hS z13.1 (cE_4 z13.2) (C := RX4) (T := TX4) (N := 6) rfl (m_X4_spans l G F S D t12 x1 t15 e14) (cwV 1 hts (gWC wc_184 wc_185 wc_186 wc_48 wc_182) rfl rfl rfl (by decide +kernel) ⟨Nat.le_of_ble_eq_true rfl, Nat.le_of_ble_eq_true rfl⟩) rfl hl.1 rfl (Nat.le_of_ble_eq_true rfl) dX6_placeAt_41 (fun H locs hP hS => ?_)
        refine lv_if_eq (tgt := 64) hx hb dX6_placeAt_44 (by decide) (fun u16 => ?_) (fun u16 => ?_)
        · have h := ite_t u16 h
          exact b64 _ _ _ D x1 x2 x3 x4 hP hS (lv_sub hl [0, 1, 2, 3, 4] rfl) h
        · have h := ite_f u16 h
          refine lv_aload_n hx hb dX6_placeAt_47 rfl (lv_at hl 0 rfl) ?_
          refine lv_iload hx hb dX6_placeAt_48 (lv_at hl 4 rfl) ?_
          refine lv_iload_n hx hb dX6_placeAt_50 rfl (lv_at hl 2 rfl) ?_
          refine lv_aload_n hx hb dX6_placeAt_51 rfl (lv_at hl 0 rfl) ?_
          obtain ⟨p17, e18, h⟩ := cal_el h
          refine c_get (C := RX6) (T := TX6) (N := 8) (ref := "SegmentMap") (ci := 7) (v := .ref p17) hC hin_X6 hP z1.1 (cE_6 z1.2) rfl 6 (by decide) fl_X6_probe rfl (by show some (va_rf (S.2.2.1 a0 6)) = _; rw [e18]; rfl) dX6_placeAt_52 ?_
          obtain ⟨t20, e19, h⟩ := cal_el h
          refine c_VI (As := [.int x4, .int x2, .ref p17]) (rest := []) hC hP hS z1.1 (cE_6 z1.2) (C := RX6) (T := TX6) (N := 8) rfl (m_X6_isBefore l G F S D a0 x4 x2 p17 t20 e19) (cwV 3 hts (gWC wc_189 wc_190 wc_191 wc_66 wc_187) rfl rfl rfl (by decide +kernel) ⟨Nat.le_of_ble_eq_true rfl, Nat.le_of_ble_eq_true rfl⟩) rfl hl.1 rfl (Nat.le_of_ble_eq_true rfl) dX6_placeAt_55 (fun H locs hP hS => ?_)
          refine lv_if_eq (tgt := 64) hx hb dX6_placeAt_58 (by decide) (fun u21 => ?_) (fun u21 => ?_)
          · have h := ite_t u21 h
            exact b64 _ _ _ D x1 x2 x3 x4 hP hS (lv_sub hl [0, 1, 2, 3, 4] rfl) h
          · have h := ite_f u21 h
            refine lv_iinc (v := x3 + 1) (lv' := [(3, .int (x3 + 1)), (0, .ref a0), (1, .int x1), (2, .int x2), (4, .int x4)]) hx hb dX6_placeAt_61 hl (k := 3) rfl rfl (by decide) rfl (fun ls hl => ?_)
            exact b64 _ _ _ D x1 x2 (x3 + 1) x4 hP hS (lv_sub hl [1, 2, 3, 0, 4] rfl) h
  refine m_entry (Nat.le_of_ble_eq_true rfl) (fun ls hl => ?_)
  have hl : lv_has ls 5 [(0, .ref a0), (1, .int a1), (2, .int a2)] := hl
  unfold f_X6_placeAt at h
  refine lv_aload_n hx hb dX6_placeAt_0 rfl (lv_at hl 0 rfl) ?_
  obtain ⟨z1, h⟩ := ckK_el h
  obtain ⟨p2, e3, h⟩ := cal_el h
  refine c_get (C := RX6) (T := TX6) (N := 8) (ref := "SegmentMap") (ci := 7) (v := .ref p2) hC hin_X6 hP z1.1 (cE_6 z1.2) rfl 6 (by decide) fl_X6_probe rfl (by show some (va_rf (S.2.2.1 a0 6)) = _; rw [e3]; rfl) dX6_placeAt_1 ?_
  refine lv_iload_n hx hb dX6_placeAt_4 rfl (lv_at hl 1 rfl) ?_
  refine lv_i2l (v := a1.toInt64) hx hb dX6_placeAt_5 rfl ?_
  refine lv_lconst (v := 0) hx hb dX6_placeAt_6 (by decide) ?_
  refine lv_lconst (v := 1) hx hb dX6_placeAt_7 (by decide) ?_
  obtain ⟨z4, h⟩ := ckK_el h
  obtain ⟨D6, e5, h⟩ := cal_el h
  refine c_VV (As := [.long a1.toInt64, .long 0, .long 1]) (rest := []) hC hP hS z4.1 (cE_2 z4.2) (C := RX2) (T := TX2) (N := 4) rfl (m_X2_put l G F S D D6 p2 a1.toInt64 0 1 e5) (cwV 3 hts (gWC wc_173 wc_174 wc_175 wc_131 wc_123) rfl rfl rfl (by decide +kernel) ⟨Nat.le_of_ble_eq_true rfl, Nat.le_of_ble_eq_true rfl⟩) rfl hl.1 rfl (Nat.le_of_ble_eq_true rfl) dX6_placeAt_8 (fun H locs hP hS => ?_)
  refine lv_iconst (v := 0) hx hb dX6_placeAt_11 (by decide) ?_
  refine lv_istore_n (lv' := [(3, .int 0), (0, .ref a0), (1, .int a1), (2, .int a2)]) hx hb dX6_placeAt_12 rfl hl (by decide) rfl (fun ls hl => ?_)
  refine lv_iconst (v := 0) hx hb dX6_placeAt_13 (by decide) ?_
  refine lv_istore (lv' := [(4, .int 0), (3, .int 0), (0, .ref a0), (1, .int a1), (2, .int a2)]) hx hb dX6_placeAt_14 hl (by decide) rfl (fun ls hl => ?_)
  exact L16 F _ _ _ D6 a1 a2 0 0 hP hS (lv_sub hl [2, 3, 4, 1, 0] rfl) h

theorem dX4_overlaps_0 : decode cX4_overlaps 0 = .ok (.aload_n 0, 1) := by decide +kernel
theorem dX4_overlaps_1 : decode cX4_overlaps 1 = .ok (.aload_n 1, 1) := by decide +kernel
theorem dX4_overlaps_2 : decode cX4_overlaps 2 = .ok (.invokevirtual 31, 3) := by decide +kernel
theorem dX4_overlaps_5 : decode cX4_overlaps 5 = .ok (.lconst 0, 1) := by decide +kernel
theorem dX4_overlaps_6 : decode cX4_overlaps 6 = .ok (.lcmp, 1) := by decide +kernel
theorem dX4_overlaps_7 : decode cX4_overlaps 7 = .ok (.ifCond .ne 25, 3) := by decide +kernel
theorem dX4_overlaps_10 : decode cX4_overlaps 10 = .ok (.aload_n 0, 1) := by decide +kernel
theorem dX4_overlaps_11 : decode cX4_overlaps 11 = .ok (.aload_n 1, 1) := by decide +kernel
theorem dX4_overlaps_12 : decode cX4_overlaps 12 = .ok (.invokevirtual 41, 3) := by decide +kernel
theorem dX4_overlaps_15 : decode cX4_overlaps 15 = .ok (.lconst 0, 1) := by decide +kernel
theorem dX4_overlaps_16 : decode cX4_overlaps 16 = .ok (.lcmp, 1) := by decide +kernel
theorem dX4_overlaps_17 : decode cX4_overlaps 17 = .ok (.ifCond .ne 15, 3) := by decide +kernel
theorem dX4_overlaps_20 : decode cX4_overlaps 20 = .ok (.aload_n 0, 1) := by decide +kernel
theorem dX4_overlaps_21 : decode cX4_overlaps 21 = .ok (.aload_n 1, 1) := by decide +kernel
theorem dX4_overlaps_22 : decode cX4_overlaps 22 = .ok (.invokevirtual 44, 3) := by decide +kernel
theorem dX4_overlaps_25 : decode cX4_overlaps 25 = .ok (.ifCond .le 7, 3) := by decide +kernel
theorem dX4_overlaps_28 : decode cX4_overlaps 28 = .ok (.iconst 1, 1) := by decide +kernel
theorem dX4_overlaps_29 : decode cX4_overlaps 29 = .ok (.goto 4, 3) := by decide +kernel
theorem dX4_overlaps_32 : decode cX4_overlaps 32 = .ok (.iconst 0, 1) := by decide +kernel
theorem dX4_overlaps_33 : decode cX4_overlaps 33 = .ok (.ireturn, 1) := by decide +kernel
def f_X4_overlaps (F : Nat) (S : CS) (D : CD) (a0 : Nat) (a1 : Nat) : Option Int32 := ckK S a0 4 <| cal (f_X4_turn F S D a0 a1) fun t3 => (if (lg_cmp t3 0) = 0 then cal (f_X4_share F S D a0 a1) fun t7 => (if (lg_cmp t7 0) = 0 then cal (f_X4_commonStretch F S D a0 a1) fun t11 => (if t11 ≤ 0 then okB 0 (some 0) else okB 1 (some 1)) else okB 0 (some 0)) else okB 0 (some 0))
set_option maxRecDepth 100000 in
set_option maxHeartbeats 4000000 in
theorem m_X4_overlaps (l : Launch) (G : cG) (F : Nat) (S : CS) (D : CD) (a0 : Nat) (a1 : Nat) (r : Int32) (h : f_X4_overlaps F S D a0 a1 = some r) : cMI l yX4_overlaps vX4_overlaps ({ frames := 2, cells := 0, slots := 0, locals := 44 }) G S [.ref a0, .ref a1] D D r := by
  refine cBodyI (cc := cX4_overlaps) (maxL := 2) (ret := (some .boolean)) (own := RX4) (by decide) rfl rfl ?_
  intro sz p e s m below meth c hC hP
  have hC0 := hC
  obtain ⟨hx, hb, -, hts, hown, -, hml, -, -, -⟩ := hC0
  have hS : va_S (cA G S sz) s.heap s.heap [] := va_S.rf
  refine m_entry (Nat.le_of_ble_eq_true rfl) (fun ls hl => ?_)
  have hl : lv_has ls 2 [(0, .ref a0), (1, .ref a1)] := hl
  unfold f_X4_overlaps at h
  refine lv_aload_n hx hb dX4_overlaps_0 rfl (lv_at hl 0 rfl) ?_
  refine lv_aload_n hx hb dX4_overlaps_1 rfl (lv_at hl 1 rfl) ?_
  obtain ⟨z1, h⟩ := ckK_el h
  obtain ⟨t3, e2, h⟩ := cal_el h
  refine c_VL (As := [.ref a1]) (rest := []) hC hP hS z1.1 (cE_4 z1.2) (C := RX4) (T := TX4) (N := 6) rfl (m_X4_turn l G F S D a0 a1 t3 e2) (cwV 1 hts (gWC wc_51 wc_52 wc_53 wc_48 wc_29) rfl rfl rfl (by decide +kernel) ⟨Nat.le_of_ble_eq_true rfl, Nat.le_of_ble_eq_true rfl⟩) rfl hl.1 rfl (Nat.le_of_ble_eq_true rfl) dX4_overlaps_2 (fun H locs hP hS => ?_)
  refine lv_lconst (v := 0) hx hb dX4_overlaps_5 (by decide) ?_
  refine W.lcmp hx hb dX4_overlaps_6 ?_
  refine lv_if_ne (tgt := 32) hx hb dX4_overlaps_7 (by decide) (fun u4 => ?_) (fun u4 => ?_)
  · have h := ite_f u4 h
    refine lv_iconst (v := 0) hx hb dX4_overlaps_32 (by decide) ?_
    obtain ⟨z5, h⟩ := okB_el h
    cases h
    exact c_zret hC hP hS z5 rfl dX4_overlaps_33
  · have h := ite_t u4 h
    refine lv_aload_n hx hb dX4_overlaps_10 rfl (lv_at hl 0 rfl) ?_
    refine lv_aload_n hx hb dX4_overlaps_11 rfl (lv_at hl 1 rfl) ?_
    obtain ⟨t7, e6, h⟩ := cal_el h
    refine c_VL (As := [.ref a1]) (rest := []) hC hP hS z1.1 (cE_4 z1.2) (C := RX4) (T := TX4) (N := 6) rfl (m_X4_share l G F S D a0 a1 t7 e6) (cwV 1 hts (gWC wc_54 wc_55 wc_56 wc_48 wc_32) rfl rfl rfl (by decide +kernel) ⟨Nat.le_of_ble_eq_true rfl, Nat.le_of_ble_eq_true rfl⟩) rfl hl.1 rfl (Nat.le_of_ble_eq_true rfl) dX4_overlaps_12 (fun H locs hP hS => ?_)
    refine lv_lconst (v := 0) hx hb dX4_overlaps_15 (by decide) ?_
    refine W.lcmp hx hb dX4_overlaps_16 ?_
    refine lv_if_ne (tgt := 32) hx hb dX4_overlaps_17 (by decide) (fun u8 => ?_) (fun u8 => ?_)
    · have h := ite_f u8 h
      refine lv_iconst (v := 0) hx hb dX4_overlaps_32 (by decide) ?_
      obtain ⟨z9, h⟩ := okB_el h
      cases h
      exact c_zret hC hP hS z9 rfl dX4_overlaps_33
    · have h := ite_t u8 h
      refine lv_aload_n hx hb dX4_overlaps_20 rfl (lv_at hl 0 rfl) ?_
      refine lv_aload_n hx hb dX4_overlaps_21 rfl (lv_at hl 1 rfl) ?_
      obtain ⟨t11, e10, h⟩ := cal_el h
      refine c_VI (As := [.ref a1]) (rest := []) hC hP hS z1.1 (cE_4 z1.2) (C := RX4) (T := TX4) (N := 6) rfl (m_X4_commonStretch l G F S D a0 a1 t11 e10) (cwV 1 hts (gWC wc_57 wc_58 wc_59 wc_48 wc_36) rfl rfl rfl (by decide +kernel) ⟨Nat.le_of_ble_eq_true rfl, Nat.le_of_ble_eq_true rfl⟩) rfl hl.1 rfl (Nat.le_of_ble_eq_true rfl) dX4_overlaps_22 (fun H locs hP hS => ?_)
      refine lv_if_le (tgt := 32) hx hb dX4_overlaps_25 (by decide) (fun u12 => ?_) (fun u12 => ?_)
      · have h := ite_t u12 h
        refine lv_iconst (v := 0) hx hb dX4_overlaps_32 (by decide) ?_
        obtain ⟨z13, h⟩ := okB_el h
        cases h
        exact c_zret hC hP hS z13 rfl dX4_overlaps_33
      · have h := ite_f u12 h
        refine lv_iconst (v := 1) hx hb dX4_overlaps_28 (by decide) ?_
        refine lv_goto (tgt := 33) hx hb dX4_overlaps_29 (by decide) ?_
        obtain ⟨z14, h⟩ := okB_el h
        cases h
        exact c_zret hC hP hS z14 rfl dX4_overlaps_33

theorem dX6_overlapsAnyLine_0 : decode cX6_overlapsAnyLine 0 = .ok (.iconst 0, 1) := by decide +kernel
theorem dX6_overlapsAnyLine_1 : decode cX6_overlapsAnyLine 1 = .ok (.istore_n 2, 1) := by decide +kernel
theorem dX6_overlapsAnyLine_2 : decode cX6_overlapsAnyLine 2 = .ok (.iload_n 2, 1) := by decide +kernel
theorem dX6_overlapsAnyLine_3 : decode cX6_overlapsAnyLine 3 = .ok (.aload_n 0, 1) := by decide +kernel
theorem dX6_overlapsAnyLine_4 : decode cX6_overlapsAnyLine 4 = .ok (.getfield 12, 3) := by decide +kernel
theorem dX6_overlapsAnyLine_7 : decode cX6_overlapsAnyLine 7 = .ok (.invokevirtual 75, 3) := by decide +kernel
theorem dX6_overlapsAnyLine_10 : decode cX6_overlapsAnyLine 10 = .ok (.if_icmp .ge 29, 3) := by decide +kernel
theorem dX6_overlapsAnyLine_13 : decode cX6_overlapsAnyLine 13 = .ok (.aload_n 0, 1) := by decide +kernel
theorem dX6_overlapsAnyLine_14 : decode cX6_overlapsAnyLine 14 = .ok (.getfield 12, 3) := by decide +kernel
theorem dX6_overlapsAnyLine_17 : decode cX6_overlapsAnyLine 17 = .ok (.iload_n 2, 1) := by decide +kernel
theorem dX6_overlapsAnyLine_18 : decode cX6_overlapsAnyLine 18 = .ok (.invokevirtual 172, 3) := by decide +kernel
theorem dX6_overlapsAnyLine_21 : decode cX6_overlapsAnyLine 21 = .ok (.checkcast 16, 3) := by decide +kernel
theorem dX6_overlapsAnyLine_24 : decode cX6_overlapsAnyLine 24 = .ok (.aload_n 1, 1) := by decide +kernel
theorem dX6_overlapsAnyLine_25 : decode cX6_overlapsAnyLine 25 = .ok (.invokevirtual 217, 3) := by decide +kernel
theorem dX6_overlapsAnyLine_28 : decode cX6_overlapsAnyLine 28 = .ok (.ifCond .eq 5, 3) := by decide +kernel
theorem dX6_overlapsAnyLine_31 : decode cX6_overlapsAnyLine 31 = .ok (.iconst 1, 1) := by decide +kernel
theorem dX6_overlapsAnyLine_32 : decode cX6_overlapsAnyLine 32 = .ok (.ireturn, 1) := by decide +kernel
theorem dX6_overlapsAnyLine_33 : decode cX6_overlapsAnyLine 33 = .ok (.iinc 2 1, 3) := by decide +kernel
theorem dX6_overlapsAnyLine_36 : decode cX6_overlapsAnyLine 36 = .ok (.goto (-34), 3) := by decide +kernel
theorem dX6_overlapsAnyLine_39 : decode cX6_overlapsAnyLine 39 = .ok (.iconst 0, 1) := by decide +kernel
theorem dX6_overlapsAnyLine_40 : decode cX6_overlapsAnyLine 40 = .ok (.ireturn, 1) := by decide +kernel
def f_X6_overlapsAnyLine_L2 (F : Nat) (S : CS) (D : CD) (a0 : Nat) : Nat → Nat → Int32 → Option Int32
  | 0, _, _ => none
  | n2 + 1, x1, x2 => ckK S a0 6 <| cal (S.2.2.1 a0 0) fun p2 => ckK S p2 7 <| cal (f_Jx4a65c_size_8abf5 F S D p2) fun t6 => (if t6 ≤ x2 then okB 0 (some 0) else cal (S.2.2.1 a0 0) fun p9 => ckK S p9 7 <| cal (f_Jx4a65c_get_915e3 F S D p9 x2) fun t13 => ckK S t13 4 <| cal (f_X4_overlaps F S D t13 x1) fun t16 => (if t16 = 0 then (f_X6_overlapsAnyLine_L2 F S D a0 n2) x1 (x2 + 1) else okB 1 (some 1)))
def f_X6_overlapsAnyLine (F : Nat) (S : CS) (D : CD) (a0 : Nat) (a1 : Nat) : Option Int32 := f_X6_overlapsAnyLine_L2 F S D a0 F a1 0
set_option maxRecDepth 100000 in
set_option maxHeartbeats 4000000 in
theorem m_X6_overlapsAnyLine (l : Launch) (G : cG) (F : Nat) (S : CS) (D : CD) (a0 : Nat) (a1 : Nat) (r : Int32) (h : f_X6_overlapsAnyLine F S D a0 a1 = some r) : cMI l yX6_overlapsAnyLine vX6_overlapsAnyLine ({ frames := 3, cells := 0, slots := 0, locals := 65 }) G S [.ref a0, .ref a1] D D r := by
  refine cBodyI (cc := cX6_overlapsAnyLine) (maxL := 3) (ret := (some .boolean)) (own := RX6) (by decide) rfl rfl ?_
  intro sz p e s m below meth c hC hP
  have hC0 := hC
  obtain ⟨hx, hb, -, hts, hown, -, hml, -, -, -⟩ := hC0
  have hS : va_S (cA G S sz) s.heap s.heap [] := va_S.rf
  have hin_X6 : ∀ w ∈ wsX60, w ∈ vX6_overlapsAnyLine := fun w h => List.mem_cons_of_mem _ (hWC6 w h)
  have fl_X6_lines := hts _ (List.mem_cons_of_mem _ wc_3)
  have cl_X4 := hts _ (List.mem_cons_of_mem _ wc_24)
  have L2 : ∀ (n2 : Nat) (H : Heap) (locs : List Loc) (ls : Array Slot) (x1 : Nat) (x2 : Int32), va_P G.1 vwCl (cW G S D) H → va_S (cA G S sz) s.heap H locs → lv_has ls 3 [(0, .ref a0), (1, .ref x1), (2, .int x2)] → f_X6_overlapsAnyLine_L2 F S D a0 n2 x1 x2 = some r → W p l e (headSpec vX6_overlapsAnyLine ({ frames := 3, cells := 0, slots := 0, locals := 65 })).room s m ([.ref a0, .ref a1] : List Value).toArray below meth c H locs 0 0 (cQI below G S D sz ([.ref a0, .ref a1] : List Value).toArray s r) (F0 m 2 ls []) := by
    intro n2
    induction n2 with
    | zero =>
      intro H locs ls x1 x2 hP hS hl h
      rw [f_X6_overlapsAnyLine_L2] at h; cases h
    | succ n2 ih2 =>
      intro H locs ls x1 x2 hP hS hl h
      rw [f_X6_overlapsAnyLine_L2] at h
      refine lv_iload_n hx hb dX6_overlapsAnyLine_2 rfl (lv_at hl 2 rfl) ?_
      refine lv_aload_n hx hb dX6_overlapsAnyLine_3 rfl (lv_at hl 0 rfl) ?_
      obtain ⟨z1, h⟩ := ckK_el h
      obtain ⟨p2, e3, h⟩ := cal_el h
      refine c_get (C := RX6) (T := TX6) (N := 8) (ref := "SegmentMap") (ci := 7) (v := .ref p2) hC hin_X6 hP z1.1 (cE_6 z1.2) rfl 0 (by decide) fl_X6_lines rfl (by show some (va_rf (S.2.2.1 a0 0)) = _; rw [e3]; rfl) dX6_overlapsAnyLine_4 ?_
      obtain ⟨z4, h⟩ := ckK_el h
      obtain ⟨t6, e5, h⟩ := cal_el h
      refine c_VI (As := []) (rest := [.int x2]) hC hP hS z4.1 (cE_7 z4.2) (C := RJx4a65c) (T := TJx4a65c) (N := 3) rfl (m_Jx4a65c_size_8abf5 l G F S D p2 t6 e5) (cwV 0 hts (gWC wc_4 wc_5 wc_6 wc_7 wc_0) rfl rfl rfl (by decide +kernel) ⟨Nat.le_of_ble_eq_true rfl, Nat.le_of_ble_eq_true rfl⟩) rfl hl.1 rfl (Nat.le_of_ble_eq_true rfl) dX6_overlapsAnyLine_7 (fun H locs hP hS => ?_)
      refine lv_icmp_ge (tgt := 39) hx hb dX6_overlapsAnyLine_10 (by decide) (fun u7 => ?_) (fun u7 => ?_)
      · have h := ite_t u7 h
        refine lv_iconst (v := 0) hx hb dX6_overlapsAnyLine_39 (by decide) ?_
        obtain ⟨z8, h⟩ := okB_el h
        cases h
        exact c_zret hC hP hS z8 rfl dX6_overlapsAnyLine_40
      · have h := ite_f u7 h
        refine lv_aload_n hx hb dX6_overlapsAnyLine_13 rfl (lv_at hl 0 rfl) ?_
        obtain ⟨p9, e10, h⟩ := cal_el h
        refine c_get (C := RX6) (T := TX6) (N := 8) (ref := "SegmentMap") (ci := 7) (v := .ref p9) hC hin_X6 hP z1.1 (cE_6 z1.2) rfl 0 (by decide) fl_X6_lines rfl (by show some (va_rf (S.2.2.1 a0 0)) = _; rw [e10]; rfl) dX6_overlapsAnyLine_14 ?_
        refine lv_iload_n hx hb dX6_overlapsAnyLine_17 rfl (lv_at hl 2 rfl) ?_
        obtain ⟨z11, h⟩ := ckK_el h
        obtain ⟨t13, e12, h⟩ := cal_el h
        refine c_VA (As := [.int x2]) (rest := []) hC hP hS z11.1 (cE_7 z11.2) (C := RJx4a65c) (T := TJx4a65c) (N := 3) rfl (m_Jx4a65c_get_915e3 l G F S D p9 x2 t13 e12) (cwV 1 hts (gWC wc_26 wc_27 wc_28 wc_7 wc_16) rfl rfl rfl (by decide +kernel) ⟨Nat.le_of_ble_eq_true rfl, Nat.le_of_ble_eq_true rfl⟩) rfl hl.1 rfl (Nat.le_of_ble_eq_true rfl) dX6_overlapsAnyLine_18 (fun H locs hP hS => ?_)
        obtain ⟨z14, h⟩ := ckK_el h
        refine c_cast (C := RX4) (T := TX4) (N := 6) (ci := 5) hC hP z14.1 (cE_4 z14.2) rfl cl_X4 dX6_overlapsAnyLine_21 ?_
        refine lv_aload_n hx hb dX6_overlapsAnyLine_24 rfl (lv_at hl 1 rfl) ?_
        obtain ⟨t16, e15, h⟩ := cal_el h
        refine c_VI (As := [.ref x1]) (rest := []) hC hP hS z14.1 (cE_4 z14.2) (C := RX4) (T := TX4) (N := 6) rfl (m_X4_overlaps l G F S D t13 x1 t16 e15) (cwV 1 hts (gWC wc_194 wc_195 wc_196 wc_48 wc_192) rfl rfl rfl (by decide +kernel) ⟨Nat.le_of_ble_eq_true rfl, Nat.le_of_ble_eq_true rfl⟩) rfl hl.1 rfl (Nat.le_of_ble_eq_true rfl) dX6_overlapsAnyLine_25 (fun H locs hP hS => ?_)
        refine lv_if_eq (tgt := 33) hx hb dX6_overlapsAnyLine_28 (by decide) (fun u17 => ?_) (fun u17 => ?_)
        · have h := ite_t u17 h
          refine lv_iinc (v := x2 + 1) (lv' := [(2, .int (x2 + 1)), (0, .ref a0), (1, .ref x1)]) hx hb dX6_overlapsAnyLine_33 hl (k := 2) rfl rfl (by decide) rfl (fun ls hl => ?_)
          refine lv_goto (tgt := 2) hx hb dX6_overlapsAnyLine_36 (by decide) ?_
          exact ih2 _ _ _ x1 (x2 + 1) hP hS (lv_sub hl [1, 2, 0] rfl) h
        · have h := ite_f u17 h
          refine lv_iconst (v := 1) hx hb dX6_overlapsAnyLine_31 (by decide) ?_
          obtain ⟨z18, h⟩ := okB_el h
          cases h
          exact c_zret hC hP hS z18 rfl dX6_overlapsAnyLine_32
  refine m_entry (Nat.le_of_ble_eq_true rfl) (fun ls hl => ?_)
  have hl : lv_has ls 3 [(0, .ref a0), (1, .ref a1)] := hl
  unfold f_X6_overlapsAnyLine at h
  refine lv_iconst (v := 0) hx hb dX6_overlapsAnyLine_0 (by decide) ?_
  refine lv_istore_n (lv' := [(2, .int 0), (0, .ref a0), (1, .ref a1)]) hx hb dX6_overlapsAnyLine_1 rfl hl (by decide) rfl (fun ls hl => ?_)
  exact L2 F _ _ _ a1 0 hP hS (lv_sub hl [1, 2, 0] rfl) h

theorem dX5_clear_0 : decode cX5_clear 0 = .ok (.aload_n 0, 1) := by decide +kernel
theorem dX5_clear_1 : decode cX5_clear 1 = .ok (.iconst 0, 1) := by decide +kernel
theorem dX5_clear_2 : decode cX5_clear 2 = .ok (.putfield 40, 3) := by decide +kernel
theorem dX5_clear_5 : decode cX5_clear 5 = .ok (.return_, 1) := by decide +kernel
def f_X5_clear (F : Nat) (S : CS) (D : CD) (a0 : Nat) : Option CD := ckK S a0 5 <| cfW D a0 6 0 fun D2 => some D2
set_option maxRecDepth 100000 in
set_option maxHeartbeats 4000000 in
theorem m_X5_clear (l : Launch) (G : cG) (F : Nat) (S : CS) (D D2 : CD) (a0 : Nat) (h : f_X5_clear F S D a0 = some D2) : cMV l yX5_clear vX5_clear ({ frames := 0, cells := 0, slots := 0, locals := 0 }) G S [.ref a0] D D2 := by
  refine cBodyV (cc := cX5_clear) (maxL := 1) (ret := none) (own := RX5) (by decide) rfl rfl ?_
  intro sz p e s m below meth c hC hP
  have hC0 := hC
  obtain ⟨hx, hb, -, hts, hown, -, hml, -, -, -⟩ := hC0
  have hS : va_S (cA G S sz) s.heap s.heap [] := va_S.rf
  have hin_X5 : ∀ w ∈ wsX50, w ∈ vX5_clear := fun w h => List.mem_cons_of_mem _ (hWC5 w h)
  have fl_X5_count := hts _ (List.mem_cons_of_mem _ wc_198)
  refine m_entry (Nat.le_of_ble_eq_true rfl) (fun ls hl => ?_)
  have hl : lv_has ls 1 [(0, .ref a0)] := hl
  unfold f_X5_clear at h
  refine lv_aload_n hx hb dX5_clear_0 rfl (lv_at hl 0 rfl) ?_
  refine lv_iconst (v := 0) hx hb dX5_clear_1 (by decide) ?_
  obtain ⟨z1, h⟩ := ckK_el h
  obtain ⟨D2, e3, h⟩ := cfW_el h
  refine c_putI (C := RX5) (T := TX5) (N := 7) (ref := "SegmentMap$Vertices") (ci := 6) hC hin_X5 tyX5 tyX5_ok nmX5 hP hS z1.1 (cE_5 z1.2) rfl 6 (by decide) fl_X5_count rfl rfl (by decide +kernel) (Nat.le_of_ble_eq_true rfl) e3 (cset_5_6 G z1.2 _) dX5_clear_2 (fun H locs hP hS => ?_)
  cases h
  exact c_vret hC hP hS dX5_clear_5

theorem dX2_compareY_0 : decode cX2_compareY 0 = .ok (.aload_n 0, 1) := by decide +kernel
theorem dX2_compareY_1 : decode cX2_compareY 1 = .ok (.getfield 18, 3) := by decide +kernel
theorem dX2_compareY_4 : decode cX2_compareY 4 = .ok (.aload_n 1, 1) := by decide +kernel
theorem dX2_compareY_5 : decode cX2_compareY 5 = .ok (.getfield 21, 3) := by decide +kernel
theorem dX2_compareY_8 : decode cX2_compareY 8 = .ok (.lmul, 1) := by decide +kernel
theorem dX2_compareY_9 : decode cX2_compareY 9 = .ok (.aload_n 1, 1) := by decide +kernel
theorem dX2_compareY_10 : decode cX2_compareY 10 = .ok (.getfield 18, 3) := by decide +kernel
theorem dX2_compareY_13 : decode cX2_compareY 13 = .ok (.aload_n 0, 1) := by decide +kernel
theorem dX2_compareY_14 : decode cX2_compareY 14 = .ok (.getfield 21, 3) := by decide +kernel
theorem dX2_compareY_17 : decode cX2_compareY 17 = .ok (.lmul, 1) := by decide +kernel
theorem dX2_compareY_18 : decode cX2_compareY 18 = .ok (.invokestatic 30, 3) := by decide +kernel
theorem dX2_compareY_21 : decode cX2_compareY 21 = .ok (.ireturn, 1) := by decide +kernel
def f_X2_compareY (F : Nat) (S : CS) (D : CD) (a0 : Nat) (a1 : Nat) : Option Int32 := ckK S a0 2 <| ckK S a1 2 <| cal (f_J13_compare_74951 F S D ((D.2.1 a0 2) * (D.2.1 a1 3)) ((D.2.1 a1 2) * (D.2.1 a0 3))) fun t4 => some t4
set_option maxRecDepth 100000 in
set_option maxHeartbeats 4000000 in
theorem m_X2_compareY (l : Launch) (G : cG) (F : Nat) (S : CS) (D : CD) (a0 : Nat) (a1 : Nat) (r : Int32) (h : f_X2_compareY F S D a0 a1 = some r) : cMI l yX2_compareY vX2_compareY ({ frames := 1, cells := 0, slots := 0, locals := 23 }) G S [.ref a0, .ref a1] D D r := by
  refine cBodyI (cc := cX2_compareY) (maxL := 2) (ret := (some .int)) (own := RX2) (by decide) rfl rfl ?_
  intro sz p e s m below meth c hC hP
  have hC0 := hC
  obtain ⟨hx, hb, -, hts, hown, -, hml, -, -, -⟩ := hC0
  have hS : va_S (cA G S sz) s.heap s.heap [] := va_S.rf
  have hin_X2 : ∀ w ∈ wsX20, w ∈ vX2_compareY := fun w h => List.mem_cons_of_mem _ (hWC2 w h)
  have fl_X2_yOver := hts _ (List.mem_cons_of_mem _ wc_127)
  have fl_X2_yUnder := hts _ (List.mem_cons_of_mem _ wc_128)
  refine m_entry (Nat.le_of_ble_eq_true rfl) (fun ls hl => ?_)
  have hl : lv_has ls 2 [(0, .ref a0), (1, .ref a1)] := hl
  unfold f_X2_compareY at h
  refine lv_aload_n hx hb dX2_compareY_0 rfl (lv_at hl 0 rfl) ?_
  obtain ⟨z1, h⟩ := ckK_el h
  refine c_get (C := RX2) (T := TX2) (N := 4) (ref := "SegmentMap$Point") (ci := 3) (v := .long (D.2.1 a0 2)) hC hin_X2 hP z1.1 (cE_2 z1.2) rfl 2 (by decide) fl_X2_yOver rfl rfl dX2_compareY_1 ?_
  refine lv_aload_n hx hb dX2_compareY_4 rfl (lv_at hl 1 rfl) ?_
  obtain ⟨z2, h⟩ := ckK_el h
  refine c_get (C := RX2) (T := TX2) (N := 4) (ref := "SegmentMap$Point") (ci := 3) (v := .long (D.2.1 a1 3)) hC hin_X2 hP z2.1 (cE_2 z2.2) rfl 3 (by decide) fl_X2_yUnder rfl rfl dX2_compareY_5 ?_
  refine lv_lmul hx hb dX2_compareY_8 ?_
  refine lv_aload_n hx hb dX2_compareY_9 rfl (lv_at hl 1 rfl) ?_
  refine c_get (C := RX2) (T := TX2) (N := 4) (ref := "SegmentMap$Point") (ci := 3) (v := .long (D.2.1 a1 2)) hC hin_X2 hP z2.1 (cE_2 z2.2) rfl 2 (by decide) fl_X2_yOver rfl rfl dX2_compareY_10 ?_
  refine lv_aload_n hx hb dX2_compareY_13 rfl (lv_at hl 0 rfl) ?_
  refine c_get (C := RX2) (T := TX2) (N := 4) (ref := "SegmentMap$Point") (ci := 3) (v := .long (D.2.1 a0 3)) hC hin_X2 hP z1.1 (cE_2 z1.2) rfl 3 (by decide) fl_X2_yUnder rfl rfl dX2_compareY_14 ?_
  refine lv_lmul hx hb dX2_compareY_17 ?_
  obtain ⟨t4, e3, h⟩ := cal_el h
  refine c_SI (As := [.long ((D.2.1 a0 2) * (D.2.1 a1 3)), .long ((D.2.1 a1 2) * (D.2.1 a0 3))]) (rest := []) hC hP hS (m_J13_compare_74951 l G F S D ((D.2.1 a0 2) * (D.2.1 a1 3)) ((D.2.1 a1 2) * (D.2.1 a0 3)) t4 e3) (va_cwS 2 hts (gWCS wc_146 wc_139 wc_140 wc_133) rfl rfl rfl (by decide +kernel) ⟨Nat.le_of_ble_eq_true rfl, Nat.le_of_ble_eq_true rfl⟩) rfl hl.1 rfl (Nat.le_of_ble_eq_true rfl) dX2_compareY_18 (fun H locs hP hS => ?_)
  cases h
  exact c_iret hC hP hS rfl dX2_compareY_21

theorem dX2_compareOrder_0 : decode cX2_compareOrder 0 = .ok (.aload_n 0, 1) := by decide +kernel
theorem dX2_compareOrder_1 : decode cX2_compareOrder 1 = .ok (.aload_n 1, 1) := by decide +kernel
theorem dX2_compareOrder_2 : decode cX2_compareOrder 2 = .ok (.invokevirtual 36, 3) := by decide +kernel
theorem dX2_compareOrder_5 : decode cX2_compareOrder 5 = .ok (.istore_n 2, 1) := by decide +kernel
theorem dX2_compareOrder_6 : decode cX2_compareOrder 6 = .ok (.iload_n 2, 1) := by decide +kernel
theorem dX2_compareOrder_7 : decode cX2_compareOrder 7 = .ok (.ifCond .eq 7, 3) := by decide +kernel
theorem dX2_compareOrder_10 : decode cX2_compareOrder 10 = .ok (.iload_n 2, 1) := by decide +kernel
theorem dX2_compareOrder_11 : decode cX2_compareOrder 11 = .ok (.goto 8, 3) := by decide +kernel
theorem dX2_compareOrder_14 : decode cX2_compareOrder 14 = .ok (.aload_n 0, 1) := by decide +kernel
theorem dX2_compareOrder_15 : decode cX2_compareOrder 15 = .ok (.aload_n 1, 1) := by decide +kernel
theorem dX2_compareOrder_16 : decode cX2_compareOrder 16 = .ok (.invokevirtual 40, 3) := by decide +kernel
theorem dX2_compareOrder_19 : decode cX2_compareOrder 19 = .ok (.ireturn, 1) := by decide +kernel
def f_X2_compareOrder (F : Nat) (S : CS) (D : CD) (a0 : Nat) (a1 : Nat) : Option Int32 := ckK S a0 2 <| cal (f_X2_compareX F S D a0 a1) fun t3 => (if t3 = 0 then cal (f_X2_compareY F S D a0 a1) fun t6 => some t6 else some t3)
set_option maxRecDepth 100000 in
set_option maxHeartbeats 4000000 in
theorem m_X2_compareOrder (l : Launch) (G : cG) (F : Nat) (S : CS) (D : CD) (a0 : Nat) (a1 : Nat) (r : Int32) (h : f_X2_compareOrder F S D a0 a1 = some r) : cMI l yX2_compareOrder vX2_compareOrder ({ frames := 2, cells := 0, slots := 0, locals := 44 }) G S [.ref a0, .ref a1] D D r := by
  refine cBodyI (cc := cX2_compareOrder) (maxL := 3) (ret := (some .int)) (own := RX2) (by decide) rfl rfl ?_
  intro sz p e s m below meth c hC hP
  have hC0 := hC
  obtain ⟨hx, hb, -, hts, hown, -, hml, -, -, -⟩ := hC0
  have hS : va_S (cA G S sz) s.heap s.heap [] := va_S.rf
  refine m_entry (Nat.le_of_ble_eq_true rfl) (fun ls hl => ?_)
  have hl : lv_has ls 3 [(0, .ref a0), (1, .ref a1)] := hl
  unfold f_X2_compareOrder at h
  refine lv_aload_n hx hb dX2_compareOrder_0 rfl (lv_at hl 0 rfl) ?_
  refine lv_aload_n hx hb dX2_compareOrder_1 rfl (lv_at hl 1 rfl) ?_
  obtain ⟨z1, h⟩ := ckK_el h
  obtain ⟨t3, e2, h⟩ := cal_el h
  refine c_VI (As := [.ref a1]) (rest := []) hC hP hS z1.1 (cE_2 z1.2) (C := RX2) (T := TX2) (N := 4) rfl (m_X2_compareX l G F S D a0 a1 t3 e2) (cwV 1 hts (gWC wc_201 wc_149 wc_150 wc_131 wc_145) rfl rfl rfl (by decide +kernel) ⟨Nat.le_of_ble_eq_true rfl, Nat.le_of_ble_eq_true rfl⟩) rfl hl.1 rfl (Nat.le_of_ble_eq_true rfl) dX2_compareOrder_2 (fun H locs hP hS => ?_)
  refine lv_istore_n (lv' := [(2, .int t3), (0, .ref a0), (1, .ref a1)]) hx hb dX2_compareOrder_5 rfl hl (by decide) rfl (fun ls hl => ?_)
  refine lv_iload_n hx hb dX2_compareOrder_6 rfl (lv_at hl 0 rfl) ?_
  refine lv_if_eq (tgt := 14) hx hb dX2_compareOrder_7 (by decide) (fun u4 => ?_) (fun u4 => ?_)
  · have h := ite_t u4 h
    refine lv_aload_n hx hb dX2_compareOrder_14 rfl (lv_at hl 1 rfl) ?_
    refine lv_aload_n hx hb dX2_compareOrder_15 rfl (lv_at hl 2 rfl) ?_
    obtain ⟨t6, e5, h⟩ := cal_el h
    refine c_VI (As := [.ref a1]) (rest := []) hC hP hS z1.1 (cE_2 z1.2) (C := RX2) (T := TX2) (N := 4) rfl (m_X2_compareY l G F S D a0 a1 t6 e5) (cwV 1 hts (gWC wc_202 wc_203 wc_204 wc_131 wc_199) rfl rfl rfl (by decide +kernel) ⟨Nat.le_of_ble_eq_true rfl, Nat.le_of_ble_eq_true rfl⟩) rfl hl.1 rfl (Nat.le_of_ble_eq_true rfl) dX2_compareOrder_16 (fun H locs hP hS => ?_)
    cases h
    exact c_iret hC hP hS rfl dX2_compareOrder_19
  · have h := ite_f u4 h
    refine lv_iload_n hx hb dX2_compareOrder_10 rfl (lv_at hl 0 rfl) ?_
    refine lv_goto (tgt := 19) hx hb dX2_compareOrder_11 (by decide) ?_
    cases h
    exact c_iret hC hP hS rfl dX2_compareOrder_19

theorem dX2_copy_0 : decode cX2_copy 0 = .ok (.aload_n 0, 1) := by decide +kernel
theorem dX2_copy_1 : decode cX2_copy 1 = .ok (.aload_n 1, 1) := by decide +kernel
theorem dX2_copy_2 : decode cX2_copy 2 = .ok (.getfield 9, 3) := by decide +kernel
theorem dX2_copy_5 : decode cX2_copy 5 = .ok (.putfield 9, 3) := by decide +kernel
theorem dX2_copy_8 : decode cX2_copy 8 = .ok (.aload_n 0, 1) := by decide +kernel
theorem dX2_copy_9 : decode cX2_copy 9 = .ok (.aload_n 1, 1) := by decide +kernel
theorem dX2_copy_10 : decode cX2_copy 10 = .ok (.getfield 15, 3) := by decide +kernel
theorem dX2_copy_13 : decode cX2_copy 13 = .ok (.putfield 15, 3) := by decide +kernel
theorem dX2_copy_16 : decode cX2_copy 16 = .ok (.aload_n 0, 1) := by decide +kernel
theorem dX2_copy_17 : decode cX2_copy 17 = .ok (.aload_n 1, 1) := by decide +kernel
theorem dX2_copy_18 : decode cX2_copy 18 = .ok (.getfield 18, 3) := by decide +kernel
theorem dX2_copy_21 : decode cX2_copy 21 = .ok (.putfield 18, 3) := by decide +kernel
theorem dX2_copy_24 : decode cX2_copy 24 = .ok (.aload_n 0, 1) := by decide +kernel
theorem dX2_copy_25 : decode cX2_copy 25 = .ok (.aload_n 1, 1) := by decide +kernel
theorem dX2_copy_26 : decode cX2_copy 26 = .ok (.getfield 21, 3) := by decide +kernel
theorem dX2_copy_29 : decode cX2_copy 29 = .ok (.putfield 21, 3) := by decide +kernel
theorem dX2_copy_32 : decode cX2_copy 32 = .ok (.return_, 1) := by decide +kernel
def f_X2_copy (F : Nat) (S : CS) (D : CD) (a0 : Nat) (a1 : Nat) : Option CD := ckK S a1 2 <| ckK S a0 2 <| cgW D a0 0 (D.2.1 a1 0) fun D3 => cgW D3 a0 1 (D3.2.1 a1 1) fun D5 => cgW D5 a0 2 (D5.2.1 a1 2) fun D7 => cgW D7 a0 3 (D7.2.1 a1 3) fun D9 => some D9
set_option maxRecDepth 100000 in
set_option maxHeartbeats 4000000 in
theorem m_X2_copy (l : Launch) (G : cG) (F : Nat) (S : CS) (D D2 : CD) (a0 : Nat) (a1 : Nat) (h : f_X2_copy F S D a0 a1 = some D2) : cMV l yX2_copy vX2_copy ({ frames := 0, cells := 0, slots := 0, locals := 0 }) G S [.ref a0, .ref a1] D D2 := by
  refine cBodyV (cc := cX2_copy) (maxL := 2) (ret := none) (own := RX2) (by decide) rfl rfl ?_
  intro sz p e s m below meth c hC hP
  have hC0 := hC
  obtain ⟨hx, hb, -, hts, hown, -, hml, -, -, -⟩ := hC0
  have hS : va_S (cA G S sz) s.heap s.heap [] := va_S.rf
  have hin_X2 : ∀ w ∈ wsX20, w ∈ vX2_copy := fun w h => List.mem_cons_of_mem _ (hWC2 w h)
  have fl_X2_xOver := hts _ (List.mem_cons_of_mem _ wc_125)
  have fl_X2_xUnder := hts _ (List.mem_cons_of_mem _ wc_126)
  have fl_X2_yOver := hts _ (List.mem_cons_of_mem _ wc_127)
  have fl_X2_yUnder := hts _ (List.mem_cons_of_mem _ wc_128)
  refine m_entry (Nat.le_of_ble_eq_true rfl) (fun ls hl => ?_)
  have hl : lv_has ls 2 [(0, .ref a0), (1, .ref a1)] := hl
  unfold f_X2_copy at h
  refine lv_aload_n hx hb dX2_copy_0 rfl (lv_at hl 0 rfl) ?_
  refine lv_aload_n hx hb dX2_copy_1 rfl (lv_at hl 1 rfl) ?_
  obtain ⟨z1, h⟩ := ckK_el h
  refine c_get (C := RX2) (T := TX2) (N := 4) (ref := "SegmentMap$Point") (ci := 3) (v := .long (D.2.1 a1 0)) hC hin_X2 hP z1.1 (cE_2 z1.2) rfl 0 (by decide) fl_X2_xOver rfl rfl dX2_copy_2 ?_
  obtain ⟨z2, h⟩ := ckK_el h
  obtain ⟨D3, e4, h⟩ := cgW_el h
  refine c_putL (C := RX2) (T := TX2) (N := 4) (ref := "SegmentMap$Point") (ci := 3) hC hin_X2 tyX2 tyX2_ok nmX2 hP hS z2.1 (cE_2 z2.2) rfl 0 (by decide) fl_X2_xOver rfl rfl (by decide +kernel) (Nat.le_of_ble_eq_true rfl) e4 (cset_2_0 G z2.2 _) dX2_copy_5 (fun H locs hP hS => ?_)
  refine lv_aload_n hx hb dX2_copy_8 rfl (lv_at hl 0 rfl) ?_
  refine lv_aload_n hx hb dX2_copy_9 rfl (lv_at hl 1 rfl) ?_
  refine c_get (C := RX2) (T := TX2) (N := 4) (ref := "SegmentMap$Point") (ci := 3) (v := .long (D3.2.1 a1 1)) hC hin_X2 hP z1.1 (cE_2 z1.2) rfl 1 (by decide) fl_X2_xUnder rfl rfl dX2_copy_10 ?_
  obtain ⟨D5, e6, h⟩ := cgW_el h
  refine c_putL (C := RX2) (T := TX2) (N := 4) (ref := "SegmentMap$Point") (ci := 3) hC hin_X2 tyX2 tyX2_ok nmX2 hP hS z2.1 (cE_2 z2.2) rfl 1 (by decide) fl_X2_xUnder rfl rfl (by decide +kernel) (Nat.le_of_ble_eq_true rfl) e6 (cset_2_1 G z2.2 _) dX2_copy_13 (fun H locs hP hS => ?_)
  refine lv_aload_n hx hb dX2_copy_16 rfl (lv_at hl 0 rfl) ?_
  refine lv_aload_n hx hb dX2_copy_17 rfl (lv_at hl 1 rfl) ?_
  refine c_get (C := RX2) (T := TX2) (N := 4) (ref := "SegmentMap$Point") (ci := 3) (v := .long (D5.2.1 a1 2)) hC hin_X2 hP z1.1 (cE_2 z1.2) rfl 2 (by decide) fl_X2_yOver rfl rfl dX2_copy_18 ?_
  obtain ⟨D7, e8, h⟩ := cgW_el h
  refine c_putL (C := RX2) (T := TX2) (N := 4) (ref := "SegmentMap$Point") (ci := 3) hC hin_X2 tyX2 tyX2_ok nmX2 hP hS z2.1 (cE_2 z2.2) rfl 2 (by decide) fl_X2_yOver rfl rfl (by decide +kernel) (Nat.le_of_ble_eq_true rfl) e8 (cset_2_2 G z2.2 _) dX2_copy_21 (fun H locs hP hS => ?_)
  refine lv_aload_n hx hb dX2_copy_24 rfl (lv_at hl 0 rfl) ?_
  refine lv_aload_n hx hb dX2_copy_25 rfl (lv_at hl 1 rfl) ?_
  refine c_get (C := RX2) (T := TX2) (N := 4) (ref := "SegmentMap$Point") (ci := 3) (v := .long (D7.2.1 a1 3)) hC hin_X2 hP z1.1 (cE_2 z1.2) rfl 3 (by decide) fl_X2_yUnder rfl rfl dX2_copy_26 ?_
  obtain ⟨D9, e10, h⟩ := cgW_el h
  refine c_putL (C := RX2) (T := TX2) (N := 4) (ref := "SegmentMap$Point") (ci := 3) hC hin_X2 tyX2 tyX2_ok nmX2 hP hS z2.1 (cE_2 z2.2) rfl 3 (by decide) fl_X2_yUnder rfl rfl (by decide +kernel) (Nat.le_of_ble_eq_true rfl) e10 (cset_2_3 G z2.2 _) dX2_copy_29 (fun H locs hP hS => ?_)
  cases h
  exact c_vret hC hP hS dX2_copy_32

theorem dX5_insert_0 : decode cX5_insert 0 = .ok (.iload_n 1, 1) := by decide +kernel
theorem dX5_insert_1 : decode cX5_insert 1 = .ok (.ifCond .lt 23, 3) := by decide +kernel
theorem dX5_insert_4 : decode cX5_insert 4 = .ok (.iload_n 1, 1) := by decide +kernel
theorem dX5_insert_5 : decode cX5_insert 5 = .ok (.aload_n 0, 1) := by decide +kernel
theorem dX5_insert_6 : decode cX5_insert 6 = .ok (.getfield 40, 3) := by decide +kernel
theorem dX5_insert_9 : decode cX5_insert 9 = .ok (.if_icmp .gt 15, 3) := by decide +kernel
theorem dX5_insert_12 : decode cX5_insert 12 = .ok (.aload_n 0, 1) := by decide +kernel
theorem dX5_insert_13 : decode cX5_insert 13 = .ok (.getfield 40, 3) := by decide +kernel
theorem dX5_insert_16 : decode cX5_insert 16 = .ok (.aload_n 0, 1) := by decide +kernel
theorem dX5_insert_17 : decode cX5_insert 17 = .ok (.getfield 11, 3) := by decide +kernel
theorem dX5_insert_20 : decode cX5_insert 20 = .ok (.arraylength, 1) := by decide +kernel
theorem dX5_insert_21 : decode cX5_insert 21 = .ok (.if_icmp .lt 4, 3) := by decide +kernel
theorem dX5_insert_24 : decode cX5_insert 24 = .ok (.return_, 1) := by decide +kernel
theorem dX5_insert_25 : decode cX5_insert 25 = .ok (.aload_n 0, 1) := by decide +kernel
theorem dX5_insert_26 : decode cX5_insert 26 = .ok (.getfield 11, 3) := by decide +kernel
theorem dX5_insert_29 : decode cX5_insert 29 = .ok (.aload_n 0, 1) := by decide +kernel
theorem dX5_insert_30 : decode cX5_insert 30 = .ok (.getfield 40, 3) := by decide +kernel
theorem dX5_insert_33 : decode cX5_insert 33 = .ok (.aaload, 1) := by decide +kernel
theorem dX5_insert_34 : decode cX5_insert 34 = .ok (.astore_n 3, 1) := by decide +kernel
theorem dX5_insert_35 : decode cX5_insert 35 = .ok (.aload_n 0, 1) := by decide +kernel
theorem dX5_insert_36 : decode cX5_insert 36 = .ok (.getfield 40, 3) := by decide +kernel
theorem dX5_insert_39 : decode cX5_insert 39 = .ok (.istore 4, 2) := by decide +kernel
theorem dX5_insert_41 : decode cX5_insert 41 = .ok (.iload 4, 2) := by decide +kernel
theorem dX5_insert_43 : decode cX5_insert 43 = .ok (.iload_n 1, 1) := by decide +kernel
theorem dX5_insert_44 : decode cX5_insert 44 = .ok (.if_icmp .le 25, 3) := by decide +kernel
theorem dX5_insert_47 : decode cX5_insert 47 = .ok (.aload_n 0, 1) := by decide +kernel
theorem dX5_insert_48 : decode cX5_insert 48 = .ok (.getfield 11, 3) := by decide +kernel
theorem dX5_insert_51 : decode cX5_insert 51 = .ok (.iload 4, 2) := by decide +kernel
theorem dX5_insert_53 : decode cX5_insert 53 = .ok (.aload_n 0, 1) := by decide +kernel
theorem dX5_insert_54 : decode cX5_insert 54 = .ok (.getfield 11, 3) := by decide +kernel
theorem dX5_insert_57 : decode cX5_insert 57 = .ok (.iload 4, 2) := by decide +kernel
theorem dX5_insert_59 : decode cX5_insert 59 = .ok (.iconst 1, 1) := by decide +kernel
theorem dX5_insert_60 : decode cX5_insert 60 = .ok (.isub, 1) := by decide +kernel
theorem dX5_insert_61 : decode cX5_insert 61 = .ok (.aaload, 1) := by decide +kernel
theorem dX5_insert_62 : decode cX5_insert 62 = .ok (.aastore, 1) := by decide +kernel
theorem dX5_insert_63 : decode cX5_insert 63 = .ok (.iinc 4 (-1), 3) := by decide +kernel
theorem dX5_insert_66 : decode cX5_insert 66 = .ok (.goto (-25), 3) := by decide +kernel
theorem dX5_insert_69 : decode cX5_insert 69 = .ok (.aload_n 0, 1) := by decide +kernel
theorem dX5_insert_70 : decode cX5_insert 70 = .ok (.getfield 11, 3) := by decide +kernel
theorem dX5_insert_73 : decode cX5_insert 73 = .ok (.iload_n 1, 1) := by decide +kernel
theorem dX5_insert_74 : decode cX5_insert 74 = .ok (.aload_n 3, 1) := by decide +kernel
theorem dX5_insert_75 : decode cX5_insert 75 = .ok (.aastore, 1) := by decide +kernel
theorem dX5_insert_76 : decode cX5_insert 76 = .ok (.aload_n 3, 1) := by decide +kernel
theorem dX5_insert_77 : decode cX5_insert 77 = .ok (.aload_n 2, 1) := by decide +kernel
theorem dX5_insert_78 : decode cX5_insert 78 = .ok (.invokevirtual 56, 3) := by decide +kernel
theorem dX5_insert_81 : decode cX5_insert 81 = .ok (.aload_n 0, 1) := by decide +kernel
theorem dX5_insert_82 : decode cX5_insert 82 = .ok (.dup, 1) := by decide +kernel
theorem dX5_insert_83 : decode cX5_insert 83 = .ok (.getfield 40, 3) := by decide +kernel
theorem dX5_insert_86 : decode cX5_insert 86 = .ok (.iconst 1, 1) := by decide +kernel
theorem dX5_insert_87 : decode cX5_insert 87 = .ok (.iadd, 1) := by decide +kernel
theorem dX5_insert_88 : decode cX5_insert 88 = .ok (.putfield 40, 3) := by decide +kernel
theorem dX5_insert_91 : decode cX5_insert 91 = .ok (.return_, 1) := by decide +kernel
def f_X5_insert_L41 (F : Nat) (S : CS) (a0 : Nat) : Nat → CD → Int32 → Nat → Nat → Int32 → Option CD
  | 0, _, _, _, _, _ => none
  | n41 + 1, D, x1, x2, x3, x4 => (if x4 ≤ x1 then ckK S a0 5 <| cal (S.2.2.1 a0 0) fun p3 => ckK S p3 9 <| ckK S x3 2 <| crW S D p3 x1 x3 fun D8 => cal (f_X2_copy F S D8 x3 x2) fun D11 => cfW D11 a0 6 ((D11.1 a0 6) + 1) fun D12 => some D12 else ckK S a0 5 <| cal (S.2.2.1 a0 0) fun p15 => cal (S.2.2.1 a0 0) fun p17 => ckK S p17 9 <| rdA (S.2.2.2 p17) (D.2.2.2 p17) (x4 - 1) fun p20 => ckK S p15 9 <| ckK S p20 2 <| crW S D p15 x4 p20 fun D26 => (f_X5_insert_L41 F S a0 n41) D26 x1 x2 x3 (x4 + (-1)))
def f_X5_insert (F : Nat) (S : CS) (D : CD) (a0 : Nat) (a1 : Int32) (a2 : Nat) : Option CD := (if a1 < 0 then some D else ckK S a0 5 <| (if (D.1 a0 6) < a1 then some D else cal (S.2.2.1 a0 0) fun p4 => ckK S p4 9 <| (if (D.1 a0 6) < (Int32.ofNat (S.2.2.2 p4)) then cal (S.2.2.1 a0 0) fun p8 => ckK S p8 9 <| rdA (S.2.2.2 p8) (D.2.2.2 p8) (D.1 a0 6) fun p11 => f_X5_insert_L41 F S a0 F D a1 a2 p11 (D.1 a0 6) else some D)))
set_option maxRecDepth 100000 in
set_option maxHeartbeats 4000000 in
theorem m_X5_insert (l : Launch) (G : cG) (F : Nat) (S : CS) (D D2 : CD) (a0 : Nat) (a1 : Int32) (a2 : Nat) (h : f_X5_insert F S D a0 a1 a2 = some D2) : cMV l yX5_insert vX5_insert ({ frames := 1, cells := 0, slots := 0, locals := 21 }) G S [.ref a0, .int a1, .ref a2] D D2 := by
  refine cBodyV (cc := cX5_insert) (maxL := 5) (ret := none) (own := RX5) (by decide) rfl rfl ?_
  intro sz p e s m below meth c hC hP
  have hC0 := hC
  obtain ⟨hx, hb, -, hts, hown, -, hml, -, -, -⟩ := hC0
  have hS : va_S (cA G S sz) s.heap s.heap [] := va_S.rf
  have hin_X5 : ∀ w ∈ wsX50, w ∈ vX5_insert := fun w h => List.mem_cons_of_mem _ (hWC5 w h)
  have fl_X5_count := hts _ (List.mem_cons_of_mem _ wc_198)
  have fl_X5_points := hts _ (List.mem_cons_of_mem _ wc_83)
  have L41 : ∀ (n41 : Nat) (H : Heap) (locs : List Loc) (ls : Array Slot) (D : CD) (x1 : Int32) (x2 : Nat) (x3 : Nat) (x4 : Int32), va_P G.1 vwCl (cW G S D) H → va_S (cA G S sz) s.heap H locs → lv_has ls 5 [(0, .ref a0), (1, .int x1), (2, .ref x2), (3, .ref x3), (4, .int x4)] → f_X5_insert_L41 F S a0 n41 D x1 x2 x3 x4 = some D2 → W p l e (headSpec vX5_insert ({ frames := 1, cells := 0, slots := 0, locals := 21 })).room s m ([.ref a0, .int a1, .ref a2] : List Value).toArray below meth c H locs 0 0 (cQV below G S D2 sz ([.ref a0, .int a1, .ref a2] : List Value).toArray s) (F0 m 41 ls []) := by
    intro n41
    induction n41 with
    | zero =>
      intro H locs ls D x1 x2 x3 x4 hP hS hl h
      rw [f_X5_insert_L41] at h; cases h
    | succ n41 ih41 =>
      intro H locs ls D x1 x2 x3 x4 hP hS hl h
      rw [f_X5_insert_L41] at h
      refine lv_iload hx hb dX5_insert_41 (lv_at hl 4 rfl) ?_
      refine lv_iload_n hx hb dX5_insert_43 rfl (lv_at hl 1 rfl) ?_
      refine lv_icmp_le (tgt := 69) hx hb dX5_insert_44 (by decide) (fun u1 => ?_) (fun u1 => ?_)
      · have h := ite_t u1 h
        refine lv_aload_n hx hb dX5_insert_69 rfl (lv_at hl 0 rfl) ?_
        obtain ⟨z2, h⟩ := ckK_el h
        obtain ⟨p3, e4, h⟩ := cal_el h
        refine c_get (C := RX5) (T := TX5) (N := 7) (ref := "SegmentMap$Vertices") (ci := 6) (v := .ref p3) hC hin_X5 hP z2.1 (cE_5 z2.2) rfl 0 (by decide) fl_X5_points rfl (by show some (va_rf (S.2.2.1 a0 0)) = _; rw [e4]; rfl) dX5_insert_70 ?_
        refine lv_iload_n hx hb dX5_insert_73 rfl (lv_at hl 1 rfl) ?_
        refine lv_aload_n hx hb dX5_insert_74 rfl (lv_at hl 3 rfl) ?_
        obtain ⟨z5, h⟩ := ckK_el h
        obtain ⟨z6, h⟩ := ckK_el h
        obtain ⟨y7, D8, e9, h⟩ := crW_el h
        refine c_past hC hP hS z5.1 z5.2 z6.1 z6.2 y7 e9 dX5_insert_75 (fun H locs hP hS => ?_)
        refine lv_aload_n hx hb dX5_insert_76 rfl (lv_at hl 3 rfl) ?_
        refine lv_aload_n hx hb dX5_insert_77 rfl (lv_at hl 2 rfl) ?_
        obtain ⟨D11, e10, h⟩ := cal_el h
        refine c_VV (As := [.ref x2]) (rest := []) hC hP hS z6.1 (cE_2 z6.2) (C := RX2) (T := TX2) (N := 4) rfl (m_X2_copy l G F S D8 D11 x3 x2 e10) (cwV 1 hts (gWC wc_207 wc_208 wc_209 wc_131 wc_205) rfl rfl rfl (by decide +kernel) ⟨Nat.le_of_ble_eq_true rfl, Nat.le_of_ble_eq_true rfl⟩) rfl hl.1 rfl (Nat.le_of_ble_eq_true rfl) dX5_insert_78 (fun H locs hP hS => ?_)
        refine lv_aload_n hx hb dX5_insert_81 rfl (lv_at hl 0 rfl) ?_
        refine lv_dup hx hb dX5_insert_82 rfl ?_
        refine c_get (C := RX5) (T := TX5) (N := 7) (ref := "SegmentMap$Vertices") (ci := 6) (v := .int (D11.1 a0 6)) hC hin_X5 hP z2.1 (cE_5 z2.2) rfl 6 (by decide) fl_X5_count rfl rfl dX5_insert_83 ?_
        refine lv_iconst (v := 1) hx hb dX5_insert_86 (by decide) ?_
        refine lv_iadd hx hb dX5_insert_87 ?_
        obtain ⟨D12, e13, h⟩ := cfW_el h
        refine c_putI (C := RX5) (T := TX5) (N := 7) (ref := "SegmentMap$Vertices") (ci := 6) hC hin_X5 tyX5 tyX5_ok nmX5 hP hS z2.1 (cE_5 z2.2) rfl 6 (by decide) fl_X5_count rfl rfl (by decide +kernel) (Nat.le_of_ble_eq_true rfl) e13 (cset_5_6 G z2.2 _) dX5_insert_88 (fun H locs hP hS => ?_)
        cases h
        exact c_vret hC hP hS dX5_insert_91
      · have h := ite_f u1 h
        refine lv_aload_n hx hb dX5_insert_47 rfl (lv_at hl 0 rfl) ?_
        obtain ⟨z14, h⟩ := ckK_el h
        obtain ⟨p15, e16, h⟩ := cal_el h
        refine c_get (C := RX5) (T := TX5) (N := 7) (ref := "SegmentMap$Vertices") (ci := 6) (v := .ref p15) hC hin_X5 hP z14.1 (cE_5 z14.2) rfl 0 (by decide) fl_X5_points rfl (by show some (va_rf (S.2.2.1 a0 0)) = _; rw [e16]; rfl) dX5_insert_48 ?_
        refine lv_iload hx hb dX5_insert_51 (lv_at hl 4 rfl) ?_
        refine lv_aload_n hx hb dX5_insert_53 rfl (lv_at hl 0 rfl) ?_
        obtain ⟨p17, e18, h⟩ := cal_el h
        refine c_get (C := RX5) (T := TX5) (N := 7) (ref := "SegmentMap$Vertices") (ci := 6) (v := .ref p17) hC hin_X5 hP z14.1 (cE_5 z14.2) rfl 0 (by decide) fl_X5_points rfl (by show some (va_rf (S.2.2.1 a0 0)) = _; rw [e18]; rfl) dX5_insert_54 ?_
        refine lv_iload hx hb dX5_insert_57 (lv_at hl 4 rfl) ?_
        refine lv_iconst (v := 1) hx hb dX5_insert_59 (by decide) ?_
        refine lv_isub hx hb dX5_insert_60 ?_
        obtain ⟨z19, h⟩ := ckK_el h
        obtain ⟨y21, p20, e22, h⟩ := rdA_el h
        refine c_ald9 hC hP z19.1 z19.2 y21 e22 dX5_insert_61 ?_
        obtain ⟨z23, h⟩ := ckK_el h
        obtain ⟨z24, h⟩ := ckK_el h
        obtain ⟨y25, D26, e27, h⟩ := crW_el h
        refine c_past hC hP hS z23.1 z23.2 z24.1 z24.2 y25 e27 dX5_insert_62 (fun H locs hP hS => ?_)
        refine lv_iinc (v := x4 + (-1)) (lv' := [(4, .int (x4 + (-1))), (0, .ref a0), (1, .int x1), (2, .ref x2), (3, .ref x3)]) hx hb dX5_insert_63 hl (k := 4) rfl rfl (by decide) rfl (fun ls hl => ?_)
        refine lv_goto (tgt := 41) hx hb dX5_insert_66 (by decide) ?_
        exact ih41 _ _ _ D26 x1 x2 x3 (x4 + (-1)) hP hS (lv_sub hl [1, 2, 3, 4, 0] rfl) h
  refine m_entry (Nat.le_of_ble_eq_true rfl) (fun ls hl => ?_)
  have hl : lv_has ls 5 [(0, .ref a0), (1, .int a1), (2, .ref a2)] := hl
  unfold f_X5_insert at h
  refine lv_iload_n hx hb dX5_insert_0 rfl (lv_at hl 1 rfl) ?_
  refine lv_if_lt (tgt := 24) hx hb dX5_insert_1 (by decide) (fun u1 => ?_) (fun u1 => ?_)
  · have h := ite_t u1 h
    cases h
    exact c_vret hC hP hS dX5_insert_24
  · have h := ite_f u1 h
    refine lv_iload_n hx hb dX5_insert_4 rfl (lv_at hl 1 rfl) ?_
    refine lv_aload_n hx hb dX5_insert_5 rfl (lv_at hl 0 rfl) ?_
    obtain ⟨z2, h⟩ := ckK_el h
    refine c_get (C := RX5) (T := TX5) (N := 7) (ref := "SegmentMap$Vertices") (ci := 6) (v := .int (D.1 a0 6)) hC hin_X5 hP z2.1 (cE_5 z2.2) rfl 6 (by decide) fl_X5_count rfl rfl dX5_insert_6 ?_
    refine lv_icmp_gt (tgt := 24) hx hb dX5_insert_9 (by decide) (fun u3 => ?_) (fun u3 => ?_)
    · have h := ite_t u3 h
      cases h
      exact c_vret hC hP hS dX5_insert_24
    · have h := ite_f u3 h
      refine lv_aload_n hx hb dX5_insert_12 rfl (lv_at hl 0 rfl) ?_
      refine c_get (C := RX5) (T := TX5) (N := 7) (ref := "SegmentMap$Vertices") (ci := 6) (v := .int (D.1 a0 6)) hC hin_X5 hP z2.1 (cE_5 z2.2) rfl 6 (by decide) fl_X5_count rfl rfl dX5_insert_13 ?_
      refine lv_aload_n hx hb dX5_insert_16 rfl (lv_at hl 0 rfl) ?_
      obtain ⟨p4, e5, h⟩ := cal_el h
      refine c_get (C := RX5) (T := TX5) (N := 7) (ref := "SegmentMap$Vertices") (ci := 6) (v := .ref p4) hC hin_X5 hP z2.1 (cE_5 z2.2) rfl 0 (by decide) fl_X5_points rfl (by show some (va_rf (S.2.2.1 a0 0)) = _; rw [e5]; rfl) dX5_insert_17 ?_
      obtain ⟨z6, h⟩ := ckK_el h
      refine c_alen hC hP z6.1 (by omega) (by omega) dX5_insert_20 ?_
      refine lv_icmp_lt (tgt := 25) hx hb dX5_insert_21 (by decide) (fun u7 => ?_) (fun u7 => ?_)
      · have h := ite_t u7 h
        refine lv_aload_n hx hb dX5_insert_25 rfl (lv_at hl 0 rfl) ?_
        obtain ⟨p8, e9, h⟩ := cal_el h
        refine c_get (C := RX5) (T := TX5) (N := 7) (ref := "SegmentMap$Vertices") (ci := 6) (v := .ref p8) hC hin_X5 hP z2.1 (cE_5 z2.2) rfl 0 (by decide) fl_X5_points rfl (by show some (va_rf (S.2.2.1 a0 0)) = _; rw [e9]; rfl) dX5_insert_26 ?_
        refine lv_aload_n hx hb dX5_insert_29 rfl (lv_at hl 0 rfl) ?_
        refine c_get (C := RX5) (T := TX5) (N := 7) (ref := "SegmentMap$Vertices") (ci := 6) (v := .int (D.1 a0 6)) hC hin_X5 hP z2.1 (cE_5 z2.2) rfl 6 (by decide) fl_X5_count rfl rfl dX5_insert_30 ?_
        obtain ⟨z10, h⟩ := ckK_el h
        obtain ⟨y12, p11, e13, h⟩ := rdA_el h
        refine c_ald9 hC hP z10.1 z10.2 y12 e13 dX5_insert_33 ?_
        refine lv_astore_n (lv' := [(3, .ref p11), (0, .ref a0), (1, .int a1), (2, .ref a2)]) hx hb dX5_insert_34 rfl hl (by decide) rfl (fun ls hl => ?_)
        refine lv_aload_n hx hb dX5_insert_35 rfl (lv_at hl 1 rfl) ?_
        refine c_get (C := RX5) (T := TX5) (N := 7) (ref := "SegmentMap$Vertices") (ci := 6) (v := .int (D.1 a0 6)) hC hin_X5 hP z2.1 (cE_5 z2.2) rfl 6 (by decide) fl_X5_count rfl rfl dX5_insert_36 ?_
        refine lv_istore (lv' := [(4, .int (D.1 a0 6)), (3, .ref p11), (0, .ref a0), (1, .int a1), (2, .ref a2)]) hx hb dX5_insert_39 hl (by decide) rfl (fun ls hl => ?_)
        exact L41 F _ _ _ D a1 a2 p11 (D.1 a0 6) hP hS (lv_sub hl [2, 3, 4, 1, 0] rfl) h
      · have h := ite_f u7 h
        cases h
        exact c_vret hC hP hS dX5_insert_24

theorem dX5_include_0 : decode cX5_include 0 = .ok (.aload_n 0, 1) := by decide +kernel
theorem dX5_include_1 : decode cX5_include 1 = .ok (.getfield 40, 3) := by decide +kernel
theorem dX5_include_4 : decode cX5_include 4 = .ok (.istore_n 2, 1) := by decide +kernel
theorem dX5_include_5 : decode cX5_include 5 = .ok (.iload_n 2, 1) := by decide +kernel
theorem dX5_include_6 : decode cX5_include 6 = .ok (.ifCond .le 23, 3) := by decide +kernel
theorem dX5_include_9 : decode cX5_include 9 = .ok (.aload_n 0, 1) := by decide +kernel
theorem dX5_include_10 : decode cX5_include 10 = .ok (.iload_n 2, 1) := by decide +kernel
theorem dX5_include_11 : decode cX5_include 11 = .ok (.iconst 1, 1) := by decide +kernel
theorem dX5_include_12 : decode cX5_include 12 = .ok (.isub, 1) := by decide +kernel
theorem dX5_include_13 : decode cX5_include 13 = .ok (.invokevirtual 44, 3) := by decide +kernel
theorem dX5_include_16 : decode cX5_include 16 = .ok (.aload_n 1, 1) := by decide +kernel
theorem dX5_include_17 : decode cX5_include 17 = .ok (.invokevirtual 48, 3) := by decide +kernel
theorem dX5_include_20 : decode cX5_include 20 = .ok (.ifCond .lt 9, 3) := by decide +kernel
theorem dX5_include_23 : decode cX5_include 23 = .ok (.iinc 2 (-1), 3) := by decide +kernel
theorem dX5_include_26 : decode cX5_include 26 = .ok (.goto (-21), 3) := by decide +kernel
theorem dX5_include_29 : decode cX5_include 29 = .ok (.iload_n 2, 1) := by decide +kernel
theorem dX5_include_30 : decode cX5_include 30 = .ok (.aload_n 0, 1) := by decide +kernel
theorem dX5_include_31 : decode cX5_include 31 = .ok (.getfield 40, 3) := by decide +kernel
theorem dX5_include_34 : decode cX5_include 34 = .ok (.if_icmp .ge 19, 3) := by decide +kernel
theorem dX5_include_37 : decode cX5_include 37 = .ok (.aload_n 0, 1) := by decide +kernel
theorem dX5_include_38 : decode cX5_include 38 = .ok (.iload_n 2, 1) := by decide +kernel
theorem dX5_include_39 : decode cX5_include 39 = .ok (.invokevirtual 44, 3) := by decide +kernel
theorem dX5_include_42 : decode cX5_include 42 = .ok (.aload_n 1, 1) := by decide +kernel
theorem dX5_include_43 : decode cX5_include 43 = .ok (.invokevirtual 48, 3) := by decide +kernel
theorem dX5_include_46 : decode cX5_include 46 = .ok (.ifCond .ne 7, 3) := by decide +kernel
theorem dX5_include_49 : decode cX5_include 49 = .ok (.iconst 1, 1) := by decide +kernel
theorem dX5_include_50 : decode cX5_include 50 = .ok (.goto 4, 3) := by decide +kernel
theorem dX5_include_53 : decode cX5_include 53 = .ok (.iconst 0, 1) := by decide +kernel
theorem dX5_include_54 : decode cX5_include 54 = .ok (.istore_n 3, 1) := by decide +kernel
theorem dX5_include_55 : decode cX5_include 55 = .ok (.iload_n 3, 1) := by decide +kernel
theorem dX5_include_56 : decode cX5_include 56 = .ok (.ifCond .ne 9, 3) := by decide +kernel
theorem dX5_include_59 : decode cX5_include 59 = .ok (.aload_n 0, 1) := by decide +kernel
theorem dX5_include_60 : decode cX5_include 60 = .ok (.iload_n 2, 1) := by decide +kernel
theorem dX5_include_61 : decode cX5_include 61 = .ok (.aload_n 1, 1) := by decide +kernel
theorem dX5_include_62 : decode cX5_include 62 = .ok (.invokevirtual 52, 3) := by decide +kernel
theorem dX5_include_65 : decode cX5_include 65 = .ok (.return_, 1) := by decide +kernel
def f_X5_include_b54 (F : Nat) (S : CS) (a0 : Nat) (D : CD) (x1 : Nat) (x2 : Int32) (s0 : Int32) : Option CD := (if s0 = 0 then ckK S a0 5 <| cal (f_X5_insert F S D a0 x2 x1) fun D4 => some D4 else some D)
def f_X5_include_b29 (F : Nat) (S : CS) (a0 : Nat) (D : CD) (x1 : Nat) (x2 : Int32) : Option CD := ckK S a0 5 <| (if (D.1 a0 6) ≤ x2 then f_X5_include_b54 F S a0 D x1 x2 0 else cal (f_X5_at F S D a0 x2) fun t4 => ckK S t4 2 <| cal (f_X2_compareOrder F S D t4 x1) fun t7 => (if t7 = 0 then f_X5_include_b54 F S a0 D x1 x2 1 else f_X5_include_b54 F S a0 D x1 x2 0))
def f_X5_include_L5 (F : Nat) (S : CS) (a0 : Nat) : Nat → CD → Nat → Int32 → Option CD
  | 0, _, _, _ => none
  | n5 + 1, D, x1, x2 => (if x2 ≤ 0 then f_X5_include_b29 F S a0 D x1 x2 else ckK S a0 5 <| cal (f_X5_at F S D a0 (x2 - 1)) fun t4 => ckK S t4 2 <| cal (f_X2_compareOrder F S D t4 x1) fun t7 => (if t7 < 0 then f_X5_include_b29 F S a0 D x1 x2 else (f_X5_include_L5 F S a0 n5) D x1 (x2 + (-1))))
def f_X5_include (F : Nat) (S : CS) (D : CD) (a0 : Nat) (a1 : Nat) : Option CD := ckK S a0 5 <| f_X5_include_L5 F S a0 F D a1 (D.1 a0 6)
set_option maxRecDepth 100000 in
set_option maxHeartbeats 4000000 in
theorem m_X5_include (l : Launch) (G : cG) (F : Nat) (S : CS) (D D2 : CD) (a0 : Nat) (a1 : Nat) (h : f_X5_include F S D a0 a1 = some D2) : cMV l yX5_include vX5_include ({ frames := 3, cells := 0, slots := 0, locals := 66 }) G S [.ref a0, .ref a1] D D2 := by
  refine cBodyV (cc := cX5_include) (maxL := 4) (ret := none) (own := RX5) (by decide) rfl rfl ?_
  intro sz p e s m below meth c hC hP
  have hC0 := hC
  obtain ⟨hx, hb, -, hts, hown, -, hml, -, -, -⟩ := hC0
  have hS : va_S (cA G S sz) s.heap s.heap [] := va_S.rf
  have hin_X5 : ∀ w ∈ wsX50, w ∈ vX5_include := fun w h => List.mem_cons_of_mem _ (hWC5 w h)
  have fl_X5_count := hts _ (List.mem_cons_of_mem _ wc_198)
  have b54 : ∀ (H : Heap) (locs : List Loc) (ls : Array Slot) (D : CD) (x1 : Nat) (x2 : Int32) (s0 : Int32), va_P G.1 vwCl (cW G S D) H → va_S (cA G S sz) s.heap H locs → lv_has ls 4 [(0, .ref a0), (1, .ref x1), (2, .int x2)] → f_X5_include_b54 F S a0 D x1 x2 s0 = some D2 → W p l e (headSpec vX5_include ({ frames := 3, cells := 0, slots := 0, locals := 66 })).room s m ([.ref a0, .ref a1] : List Value).toArray below meth c H locs 0 0 (cQV below G S D2 sz ([.ref a0, .ref a1] : List Value).toArray s) (F0 m 54 ls [.int s0]) := by
    intro H locs ls D x1 x2 s0 hP hS hl h
    unfold f_X5_include_b54 at h
    refine lv_istore_n (lv' := [(3, .int s0), (0, .ref a0), (1, .ref x1), (2, .int x2)]) hx hb dX5_include_54 rfl hl (by decide) rfl (fun ls hl => ?_)
    refine lv_iload_n hx hb dX5_include_55 rfl (lv_at hl 0 rfl) ?_
    refine lv_if_ne (tgt := 65) hx hb dX5_include_56 (by decide) (fun u1 => ?_) (fun u1 => ?_)
    · have h := ite_f u1 h
      cases h
      exact c_vret hC hP hS dX5_include_65
    · have h := ite_t u1 h
      refine lv_aload_n hx hb dX5_include_59 rfl (lv_at hl 1 rfl) ?_
      refine lv_iload_n hx hb dX5_include_60 rfl (lv_at hl 3 rfl) ?_
      refine lv_aload_n hx hb dX5_include_61 rfl (lv_at hl 2 rfl) ?_
      obtain ⟨z2, h⟩ := ckK_el h
      obtain ⟨D4, e3, h⟩ := cal_el h
      refine c_VV (As := [.int x2, .ref x1]) (rest := []) hC hP hS z2.1 (cE_5 z2.2) (C := RX5) (T := TX5) (N := 7) rfl (m_X5_insert l G F S D D4 a0 x2 x1 e3) (cwV 2 hts (gWC wc_215 wc_216 wc_217 wc_92 wc_206) rfl rfl rfl (by decide +kernel) ⟨Nat.le_of_ble_eq_true rfl, Nat.le_of_ble_eq_true rfl⟩) rfl hl.1 rfl (Nat.le_of_ble_eq_true rfl) dX5_include_62 (fun H locs hP hS => ?_)
      cases h
      exact c_vret hC hP hS dX5_include_65
  have b29 : ∀ (H : Heap) (locs : List Loc) (ls : Array Slot) (D : CD) (x1 : Nat) (x2 : Int32), va_P G.1 vwCl (cW G S D) H → va_S (cA G S sz) s.heap H locs → lv_has ls 4 [(0, .ref a0), (1, .ref x1), (2, .int x2)] → f_X5_include_b29 F S a0 D x1 x2 = some D2 → W p l e (headSpec vX5_include ({ frames := 3, cells := 0, slots := 0, locals := 66 })).room s m ([.ref a0, .ref a1] : List Value).toArray below meth c H locs 0 0 (cQV below G S D2 sz ([.ref a0, .ref a1] : List Value).toArray s) (F0 m 29 ls []) := by
    intro H locs ls D x1 x2 hP hS hl h
    unfold f_X5_include_b29 at h
    refine lv_iload_n hx hb dX5_include_29 rfl (lv_at hl 2 rfl) ?_
    refine lv_aload_n hx hb dX5_include_30 rfl (lv_at hl 0 rfl) ?_
    obtain ⟨z1, h⟩ := ckK_el h
    refine c_get (C := RX5) (T := TX5) (N := 7) (ref := "SegmentMap$Vertices") (ci := 6) (v := .int (D.1 a0 6)) hC hin_X5 hP z1.1 (cE_5 z1.2) rfl 6 (by decide) fl_X5_count rfl rfl dX5_include_31 ?_
    refine lv_icmp_ge (tgt := 53) hx hb dX5_include_34 (by decide) (fun u2 => ?_) (fun u2 => ?_)
    · have h := ite_t u2 h
      refine lv_iconst (v := 0) hx hb dX5_include_53 (by decide) ?_
      exact b54 _ _ _ D x1 x2 0 hP hS (lv_sub hl [0, 1, 2] rfl) h
    · have h := ite_f u2 h
      refine lv_aload_n hx hb dX5_include_37 rfl (lv_at hl 0 rfl) ?_
      refine lv_iload_n hx hb dX5_include_38 rfl (lv_at hl 2 rfl) ?_
      obtain ⟨t4, e3, h⟩ := cal_el h
      refine c_VA (As := [.int x2]) (rest := []) hC hP hS z1.1 (cE_5 z1.2) (C := RX5) (T := TX5) (N := 7) rfl (m_X5_at l G F S D a0 x2 t4 e3) (cwV 1 hts (gWC wc_211 wc_90 wc_91 wc_92 wc_82) rfl rfl rfl (by decide +kernel) ⟨Nat.le_of_ble_eq_true rfl, Nat.le_of_ble_eq_true rfl⟩) rfl hl.1 rfl (Nat.le_of_ble_eq_true rfl) dX5_include_39 (fun H locs hP hS => ?_)
      refine lv_aload_n hx hb dX5_include_42 rfl (lv_at hl 1 rfl) ?_
      obtain ⟨z5, h⟩ := ckK_el h
      obtain ⟨t7, e6, h⟩ := cal_el h
      refine c_VI (As := [.ref x1]) (rest := []) hC hP hS z5.1 (cE_2 z5.2) (C := RX2) (T := TX2) (N := 4) rfl (m_X2_compareOrder l G F S D t4 x1 t7 e6) (cwV 1 hts (gWC wc_212 wc_213 wc_214 wc_131 wc_200) rfl rfl rfl (by decide +kernel) ⟨Nat.le_of_ble_eq_true rfl, Nat.le_of_ble_eq_true rfl⟩) rfl hl.1 rfl (Nat.le_of_ble_eq_true rfl) dX5_include_43 (fun H locs hP hS => ?_)
      refine lv_if_ne (tgt := 53) hx hb dX5_include_46 (by decide) (fun u8 => ?_) (fun u8 => ?_)
      · have h := ite_f u8 h
        refine lv_iconst (v := 0) hx hb dX5_include_53 (by decide) ?_
        exact b54 _ _ _ D x1 x2 0 hP hS (lv_sub hl [0, 1, 2] rfl) h
      · have h := ite_t u8 h
        refine lv_iconst (v := 1) hx hb dX5_include_49 (by decide) ?_
        refine lv_goto (tgt := 54) hx hb dX5_include_50 (by decide) ?_
        exact b54 _ _ _ D x1 x2 1 hP hS (lv_sub hl [0, 1, 2] rfl) h
  have L5 : ∀ (n5 : Nat) (H : Heap) (locs : List Loc) (ls : Array Slot) (D : CD) (x1 : Nat) (x2 : Int32), va_P G.1 vwCl (cW G S D) H → va_S (cA G S sz) s.heap H locs → lv_has ls 4 [(0, .ref a0), (1, .ref x1), (2, .int x2)] → f_X5_include_L5 F S a0 n5 D x1 x2 = some D2 → W p l e (headSpec vX5_include ({ frames := 3, cells := 0, slots := 0, locals := 66 })).room s m ([.ref a0, .ref a1] : List Value).toArray below meth c H locs 0 0 (cQV below G S D2 sz ([.ref a0, .ref a1] : List Value).toArray s) (F0 m 5 ls []) := by
    intro n5
    induction n5 with
    | zero =>
      intro H locs ls D x1 x2 hP hS hl h
      rw [f_X5_include_L5] at h; cases h
    | succ n5 ih5 =>
      intro H locs ls D x1 x2 hP hS hl h
      rw [f_X5_include_L5] at h
      refine lv_iload_n hx hb dX5_include_5 rfl (lv_at hl 2 rfl) ?_
      refine lv_if_le (tgt := 29) hx hb dX5_include_6 (by decide) (fun u1 => ?_) (fun u1 => ?_)
      · have h := ite_t u1 h
        exact b29 _ _ _ D x1 x2 hP hS (lv_sub hl [0, 1, 2] rfl) h
      · have h := ite_f u1 h
        refine lv_aload_n hx hb dX5_include_9 rfl (lv_at hl 0 rfl) ?_
        refine lv_iload_n hx hb dX5_include_10 rfl (lv_at hl 2 rfl) ?_
        refine lv_iconst (v := 1) hx hb dX5_include_11 (by decide) ?_
        refine lv_isub hx hb dX5_include_12 ?_
        obtain ⟨z2, h⟩ := ckK_el h
        obtain ⟨t4, e3, h⟩ := cal_el h
        refine c_VA (As := [.int (x2 - 1)]) (rest := []) hC hP hS z2.1 (cE_5 z2.2) (C := RX5) (T := TX5) (N := 7) rfl (m_X5_at l G F S D a0 (x2 - 1) t4 e3) (cwV 1 hts (gWC wc_211 wc_90 wc_91 wc_92 wc_82) rfl rfl rfl (by decide +kernel) ⟨Nat.le_of_ble_eq_true rfl, Nat.le_of_ble_eq_true rfl⟩) rfl hl.1 rfl (Nat.le_of_ble_eq_true rfl) dX5_include_13 (fun H locs hP hS => ?_)
        refine lv_aload_n hx hb dX5_include_16 rfl (lv_at hl 1 rfl) ?_
        obtain ⟨z5, h⟩ := ckK_el h
        obtain ⟨t7, e6, h⟩ := cal_el h
        refine c_VI (As := [.ref x1]) (rest := []) hC hP hS z5.1 (cE_2 z5.2) (C := RX2) (T := TX2) (N := 4) rfl (m_X2_compareOrder l G F S D t4 x1 t7 e6) (cwV 1 hts (gWC wc_212 wc_213 wc_214 wc_131 wc_200) rfl rfl rfl (by decide +kernel) ⟨Nat.le_of_ble_eq_true rfl, Nat.le_of_ble_eq_true rfl⟩) rfl hl.1 rfl (Nat.le_of_ble_eq_true rfl) dX5_include_17 (fun H locs hP hS => ?_)
        refine lv_if_lt (tgt := 29) hx hb dX5_include_20 (by decide) (fun u8 => ?_) (fun u8 => ?_)
        · have h := ite_t u8 h
          exact b29 _ _ _ D x1 x2 hP hS (lv_sub hl [0, 1, 2] rfl) h
        · have h := ite_f u8 h
          refine lv_iinc (v := x2 + (-1)) (lv' := [(2, .int (x2 + (-1))), (0, .ref a0), (1, .ref x1)]) hx hb dX5_include_23 hl (k := 2) rfl rfl (by decide) rfl (fun ls hl => ?_)
          refine lv_goto (tgt := 5) hx hb dX5_include_26 (by decide) ?_
          exact ih5 _ _ _ D x1 (x2 + (-1)) hP hS (lv_sub hl [1, 2, 0] rfl) h
  refine m_entry (Nat.le_of_ble_eq_true rfl) (fun ls hl => ?_)
  have hl : lv_has ls 4 [(0, .ref a0), (1, .ref a1)] := hl
  unfold f_X5_include at h
  refine lv_aload_n hx hb dX5_include_0 rfl (lv_at hl 0 rfl) ?_
  obtain ⟨z1, h⟩ := ckK_el h
  refine c_get (C := RX5) (T := TX5) (N := 7) (ref := "SegmentMap$Vertices") (ci := 6) (v := .int (D.1 a0 6)) hC hin_X5 hP z1.1 (cE_5 z1.2) rfl 6 (by decide) fl_X5_count rfl rfl dX5_include_1 ?_
  refine lv_istore_n (lv' := [(2, .int (D.1 a0 6)), (0, .ref a0), (1, .ref a1)]) hx hb dX5_include_4 rfl hl (by decide) rfl (fun ls hl => ?_)
  exact L5 F _ _ _ D a1 (D.1 a0 6) hP hS (lv_sub hl [1, 2, 0] rfl) h

theorem dX4_isParallel_0 : decode cX4_isParallel 0 = .ok (.aload_n 0, 1) := by decide +kernel
theorem dX4_isParallel_1 : decode cX4_isParallel 1 = .ok (.aload_n 1, 1) := by decide +kernel
theorem dX4_isParallel_2 : decode cX4_isParallel 2 = .ok (.invokevirtual 31, 3) := by decide +kernel
theorem dX4_isParallel_5 : decode cX4_isParallel 5 = .ok (.lconst 0, 1) := by decide +kernel
theorem dX4_isParallel_6 : decode cX4_isParallel 6 = .ok (.lcmp, 1) := by decide +kernel
theorem dX4_isParallel_7 : decode cX4_isParallel 7 = .ok (.ifCond .ne 7, 3) := by decide +kernel
theorem dX4_isParallel_10 : decode cX4_isParallel 10 = .ok (.iconst 1, 1) := by decide +kernel
theorem dX4_isParallel_11 : decode cX4_isParallel 11 = .ok (.goto 4, 3) := by decide +kernel
theorem dX4_isParallel_14 : decode cX4_isParallel 14 = .ok (.iconst 0, 1) := by decide +kernel
theorem dX4_isParallel_15 : decode cX4_isParallel 15 = .ok (.ireturn, 1) := by decide +kernel
def f_X4_isParallel (F : Nat) (S : CS) (D : CD) (a0 : Nat) (a1 : Nat) : Option Int32 := ckK S a0 4 <| cal (f_X4_turn F S D a0 a1) fun t3 => (if (lg_cmp t3 0) = 0 then okB 1 (some 1) else okB 0 (some 0))
set_option maxRecDepth 100000 in
set_option maxHeartbeats 4000000 in
theorem m_X4_isParallel (l : Launch) (G : cG) (F : Nat) (S : CS) (D : CD) (a0 : Nat) (a1 : Nat) (r : Int32) (h : f_X4_isParallel F S D a0 a1 = some r) : cMI l yX4_isParallel vX4_isParallel ({ frames := 1, cells := 0, slots := 0, locals := 21 }) G S [.ref a0, .ref a1] D D r := by
  refine cBodyI (cc := cX4_isParallel) (maxL := 2) (ret := (some .boolean)) (own := RX4) (by decide) rfl rfl ?_
  intro sz p e s m below meth c hC hP
  have hC0 := hC
  obtain ⟨hx, hb, -, hts, hown, -, hml, -, -, -⟩ := hC0
  have hS : va_S (cA G S sz) s.heap s.heap [] := va_S.rf
  refine m_entry (Nat.le_of_ble_eq_true rfl) (fun ls hl => ?_)
  have hl : lv_has ls 2 [(0, .ref a0), (1, .ref a1)] := hl
  unfold f_X4_isParallel at h
  refine lv_aload_n hx hb dX4_isParallel_0 rfl (lv_at hl 0 rfl) ?_
  refine lv_aload_n hx hb dX4_isParallel_1 rfl (lv_at hl 1 rfl) ?_
  obtain ⟨z1, h⟩ := ckK_el h
  obtain ⟨t3, e2, h⟩ := cal_el h
  refine c_VL (As := [.ref a1]) (rest := []) hC hP hS z1.1 (cE_4 z1.2) (C := RX4) (T := TX4) (N := 6) rfl (m_X4_turn l G F S D a0 a1 t3 e2) (cwV 1 hts (gWC wc_51 wc_52 wc_53 wc_48 wc_29) rfl rfl rfl (by decide +kernel) ⟨Nat.le_of_ble_eq_true rfl, Nat.le_of_ble_eq_true rfl⟩) rfl hl.1 rfl (Nat.le_of_ble_eq_true rfl) dX4_isParallel_2 (fun H locs hP hS => ?_)
  refine lv_lconst (v := 0) hx hb dX4_isParallel_5 (by decide) ?_
  refine W.lcmp hx hb dX4_isParallel_6 ?_
  refine lv_if_ne (tgt := 14) hx hb dX4_isParallel_7 (by decide) (fun u4 => ?_) (fun u4 => ?_)
  · have h := ite_f u4 h
    refine lv_iconst (v := 0) hx hb dX4_isParallel_14 (by decide) ?_
    obtain ⟨z5, h⟩ := okB_el h
    cases h
    exact c_zret hC hP hS z5 rfl dX4_isParallel_15
  · have h := ite_t u4 h
    refine lv_iconst (v := 1) hx hb dX4_isParallel_10 (by decide) ?_
    refine lv_goto (tgt := 15) hx hb dX4_isParallel_11 (by decide) ?_
    obtain ⟨z6, h⟩ := okB_el h
    cases h
    exact c_zret hC hP hS z6 rfl dX4_isParallel_15

theorem dX4_putMeeting_0 : decode cX4_putMeeting 0 = .ok (.aload_n 0, 1) := by decide +kernel
theorem dX4_putMeeting_1 : decode cX4_putMeeting 1 = .ok (.aload_n 1, 1) := by decide +kernel
theorem dX4_putMeeting_2 : decode cX4_putMeeting 2 = .ok (.invokevirtual 31, 3) := by decide +kernel
theorem dX4_putMeeting_5 : decode cX4_putMeeting 5 = .ok (.lstore_n 3, 1) := by decide +kernel
theorem dX4_putMeeting_6 : decode cX4_putMeeting 6 = .ok (.aload_n 0, 1) := by decide +kernel
theorem dX4_putMeeting_7 : decode cX4_putMeeting 7 = .ok (.aload_n 1, 1) := by decide +kernel
theorem dX4_putMeeting_8 : decode cX4_putMeeting 8 = .ok (.invokevirtual 41, 3) := by decide +kernel
theorem dX4_putMeeting_11 : decode cX4_putMeeting 11 = .ok (.lstore 5, 2) := by decide +kernel
theorem dX4_putMeeting_13 : decode cX4_putMeeting 13 = .ok (.aload_n 2, 1) := by decide +kernel
theorem dX4_putMeeting_14 : decode cX4_putMeeting 14 = .ok (.aload_n 0, 1) := by decide +kernel
theorem dX4_putMeeting_15 : decode cX4_putMeeting 15 = .ok (.getfield 9, 3) := by decide +kernel
theorem dX4_putMeeting_18 : decode cX4_putMeeting 18 = .ok (.i2l, 1) := by decide +kernel
theorem dX4_putMeeting_19 : decode cX4_putMeeting 19 = .ok (.lload_n 3, 1) := by decide +kernel
theorem dX4_putMeeting_20 : decode cX4_putMeeting 20 = .ok (.lmul, 1) := by decide +kernel
theorem dX4_putMeeting_21 : decode cX4_putMeeting 21 = .ok (.lload 5, 2) := by decide +kernel
theorem dX4_putMeeting_23 : decode cX4_putMeeting 23 = .ok (.aload_n 0, 1) := by decide +kernel
theorem dX4_putMeeting_24 : decode cX4_putMeeting 24 = .ok (.getfield 24, 3) := by decide +kernel
theorem dX4_putMeeting_27 : decode cX4_putMeeting 27 = .ok (.lmul, 1) := by decide +kernel
theorem dX4_putMeeting_28 : decode cX4_putMeeting 28 = .ok (.ladd, 1) := by decide +kernel
theorem dX4_putMeeting_29 : decode cX4_putMeeting 29 = .ok (.aload_n 0, 1) := by decide +kernel
theorem dX4_putMeeting_30 : decode cX4_putMeeting 30 = .ok (.getfield 15, 3) := by decide +kernel
theorem dX4_putMeeting_33 : decode cX4_putMeeting 33 = .ok (.i2l, 1) := by decide +kernel
theorem dX4_putMeeting_34 : decode cX4_putMeeting 34 = .ok (.lload_n 3, 1) := by decide +kernel
theorem dX4_putMeeting_35 : decode cX4_putMeeting 35 = .ok (.lmul, 1) := by decide +kernel
theorem dX4_putMeeting_36 : decode cX4_putMeeting 36 = .ok (.lload 5, 2) := by decide +kernel
theorem dX4_putMeeting_38 : decode cX4_putMeeting 38 = .ok (.aload_n 0, 1) := by decide +kernel
theorem dX4_putMeeting_39 : decode cX4_putMeeting 39 = .ok (.getfield 28, 3) := by decide +kernel
theorem dX4_putMeeting_42 : decode cX4_putMeeting 42 = .ok (.lmul, 1) := by decide +kernel
theorem dX4_putMeeting_43 : decode cX4_putMeeting 43 = .ok (.ladd, 1) := by decide +kernel
theorem dX4_putMeeting_44 : decode cX4_putMeeting 44 = .ok (.lload_n 3, 1) := by decide +kernel
theorem dX4_putMeeting_45 : decode cX4_putMeeting 45 = .ok (.invokevirtual 64, 3) := by decide +kernel
theorem dX4_putMeeting_48 : decode cX4_putMeeting 48 = .ok (.return_, 1) := by decide +kernel
def f_X4_putMeeting (F : Nat) (S : CS) (D : CD) (a0 : Nat) (a1 : Nat) (a2 : Nat) : Option CD := ckK S a0 4 <| cal (f_X4_turn F S D a0 a1) fun t3 => cal (f_X4_share F S D a0 a1) fun t5 => ckK S a2 2 <| cal (f_X2_put F S D a2 ((((D.1 a0 0).toInt64) * t3) + (t5 * (D.2.1 a0 4))) ((((D.1 a0 1).toInt64) * t3) + (t5 * (D.2.1 a0 5))) t3) fun D8 => some D8
set_option maxRecDepth 100000 in
set_option maxHeartbeats 4000000 in
theorem m_X4_putMeeting (l : Launch) (G : cG) (F : Nat) (S : CS) (D D2 : CD) (a0 : Nat) (a1 : Nat) (a2 : Nat) (h : f_X4_putMeeting F S D a0 a1 a2 = some D2) : cMV l yX4_putMeeting vX4_putMeeting ({ frames := 3, cells := 0, slots := 0, locals := 83 }) G S [.ref a0, .ref a1, .ref a2] D D2 := by
  refine cBodyV (cc := cX4_putMeeting) (maxL := 7) (ret := none) (own := RX4) (by decide) rfl rfl ?_
  intro sz p e s m below meth c hC hP
  have hC0 := hC
  obtain ⟨hx, hb, -, hts, hown, -, hml, -, -, -⟩ := hC0
  have hS : va_S (cA G S sz) s.heap s.heap [] := va_S.rf
  have hin_X4 : ∀ w ∈ wsX40, w ∈ vX4_putMeeting := fun w h => List.mem_cons_of_mem _ (hWC4 w h)
  have fl_X4_startX := hts _ (List.mem_cons_of_mem _ wc_33)
  have fl_X4_run := hts _ (List.mem_cons_of_mem _ wc_30)
  have fl_X4_startY := hts _ (List.mem_cons_of_mem _ wc_34)
  have fl_X4_rise := hts _ (List.mem_cons_of_mem _ wc_31)
  refine m_entry (Nat.le_of_ble_eq_true rfl) (fun ls hl => ?_)
  have hl : lv_has ls 7 [(0, .ref a0), (1, .ref a1), (2, .ref a2)] := hl
  unfold f_X4_putMeeting at h
  refine lv_aload_n hx hb dX4_putMeeting_0 rfl (lv_at hl 0 rfl) ?_
  refine lv_aload_n hx hb dX4_putMeeting_1 rfl (lv_at hl 1 rfl) ?_
  obtain ⟨z1, h⟩ := ckK_el h
  obtain ⟨t3, e2, h⟩ := cal_el h
  refine c_VL (As := [.ref a1]) (rest := []) hC hP hS z1.1 (cE_4 z1.2) (C := RX4) (T := TX4) (N := 6) rfl (m_X4_turn l G F S D a0 a1 t3 e2) (cwV 1 hts (gWC wc_51 wc_52 wc_53 wc_48 wc_29) rfl rfl rfl (by decide +kernel) ⟨Nat.le_of_ble_eq_true rfl, Nat.le_of_ble_eq_true rfl⟩) rfl hl.1 rfl (Nat.le_of_ble_eq_true rfl) dX4_putMeeting_2 (fun H locs hP hS => ?_)
  refine lv_lstore_n (lv' := [(3, .long t3), (0, .ref a0), (1, .ref a1), (2, .ref a2)]) hx hb dX4_putMeeting_5 rfl hl (by decide) rfl (fun ls hl => ?_)
  refine lv_aload_n hx hb dX4_putMeeting_6 rfl (lv_at hl 1 rfl) ?_
  refine lv_aload_n hx hb dX4_putMeeting_7 rfl (lv_at hl 2 rfl) ?_
  obtain ⟨t5, e4, h⟩ := cal_el h
  refine c_VL (As := [.ref a1]) (rest := []) hC hP hS z1.1 (cE_4 z1.2) (C := RX4) (T := TX4) (N := 6) rfl (m_X4_share l G F S D a0 a1 t5 e4) (cwV 1 hts (gWC wc_54 wc_55 wc_56 wc_48 wc_32) rfl rfl rfl (by decide +kernel) ⟨Nat.le_of_ble_eq_true rfl, Nat.le_of_ble_eq_true rfl⟩) rfl hl.1 rfl (Nat.le_of_ble_eq_true rfl) dX4_putMeeting_8 (fun H locs hP hS => ?_)
  refine lv_lstore (lv' := [(5, .long t5), (3, .long t3), (0, .ref a0), (1, .ref a1), (2, .ref a2)]) hx hb dX4_putMeeting_11 hl (by decide) rfl (fun ls hl => ?_)
  refine lv_aload_n hx hb dX4_putMeeting_13 rfl (lv_at hl 4 rfl) ?_
  refine lv_aload_n hx hb dX4_putMeeting_14 rfl (lv_at hl 2 rfl) ?_
  refine c_get (C := RX4) (T := TX4) (N := 6) (ref := "SegmentMap$Segment") (ci := 5) (v := .int (D.1 a0 0)) hC hin_X4 hP z1.1 (cE_4 z1.2) rfl 0 (by decide) fl_X4_startX rfl rfl dX4_putMeeting_15 ?_
  refine lv_i2l (v := (D.1 a0 0).toInt64) hx hb dX4_putMeeting_18 rfl ?_
  refine lv_lload_n hx hb dX4_putMeeting_19 rfl (lv_at hl 1 rfl) ?_
  refine lv_lmul hx hb dX4_putMeeting_20 ?_
  refine lv_lload hx hb dX4_putMeeting_21 (lv_at hl 0 rfl) ?_
  refine lv_aload_n hx hb dX4_putMeeting_23 rfl (lv_at hl 2 rfl) ?_
  refine c_get (C := RX4) (T := TX4) (N := 6) (ref := "SegmentMap$Segment") (ci := 5) (v := .long (D.2.1 a0 4)) hC hin_X4 hP z1.1 (cE_4 z1.2) rfl 4 (by decide) fl_X4_run rfl rfl dX4_putMeeting_24 ?_
  refine lv_lmul hx hb dX4_putMeeting_27 ?_
  refine lv_ladd hx hb dX4_putMeeting_28 ?_
  refine lv_aload_n hx hb dX4_putMeeting_29 rfl (lv_at hl 2 rfl) ?_
  refine c_get (C := RX4) (T := TX4) (N := 6) (ref := "SegmentMap$Segment") (ci := 5) (v := .int (D.1 a0 1)) hC hin_X4 hP z1.1 (cE_4 z1.2) rfl 1 (by decide) fl_X4_startY rfl rfl dX4_putMeeting_30 ?_
  refine lv_i2l (v := (D.1 a0 1).toInt64) hx hb dX4_putMeeting_33 rfl ?_
  refine lv_lload_n hx hb dX4_putMeeting_34 rfl (lv_at hl 1 rfl) ?_
  refine lv_lmul hx hb dX4_putMeeting_35 ?_
  refine lv_lload hx hb dX4_putMeeting_36 (lv_at hl 0 rfl) ?_
  refine lv_aload_n hx hb dX4_putMeeting_38 rfl (lv_at hl 2 rfl) ?_
  refine c_get (C := RX4) (T := TX4) (N := 6) (ref := "SegmentMap$Segment") (ci := 5) (v := .long (D.2.1 a0 5)) hC hin_X4 hP z1.1 (cE_4 z1.2) rfl 5 (by decide) fl_X4_rise rfl rfl dX4_putMeeting_39 ?_
  refine lv_lmul hx hb dX4_putMeeting_42 ?_
  refine lv_ladd hx hb dX4_putMeeting_43 ?_
  refine lv_lload_n hx hb dX4_putMeeting_44 rfl (lv_at hl 1 rfl) ?_
  obtain ⟨z6, h⟩ := ckK_el h
  obtain ⟨D8, e7, h⟩ := cal_el h
  refine c_VV (As := [.long ((((D.1 a0 0).toInt64) * t3) + (t5 * (D.2.1 a0 4))), .long ((((D.1 a0 1).toInt64) * t3) + (t5 * (D.2.1 a0 5))), .long t3]) (rest := []) hC hP hS z6.1 (cE_2 z6.2) (C := RX2) (T := TX2) (N := 4) rfl (m_X2_put l G F S D D8 a2 ((((D.1 a0 0).toInt64) * t3) + (t5 * (D.2.1 a0 4))) ((((D.1 a0 1).toInt64) * t3) + (t5 * (D.2.1 a0 5))) t3 e7) (cwV 3 hts (gWC wc_220 wc_174 wc_175 wc_131 wc_123) rfl rfl rfl (by decide +kernel) ⟨Nat.le_of_ble_eq_true rfl, Nat.le_of_ble_eq_true rfl⟩) rfl hl.1 rfl (Nat.le_of_ble_eq_true rfl) dX4_putMeeting_45 (fun H locs hP hS => ?_)
  cases h
  exact c_vret hC hP hS dX4_putMeeting_48

theorem dX6_includeMeeting_0 : decode cX6_includeMeeting 0 = .ok (.aload_n 1, 1) := by decide +kernel
theorem dX6_includeMeeting_1 : decode cX6_includeMeeting 1 = .ok (.aload_n 2, 1) := by decide +kernel
theorem dX6_includeMeeting_2 : decode cX6_includeMeeting 2 = .ok (.invokevirtual 261, 3) := by decide +kernel
theorem dX6_includeMeeting_5 : decode cX6_includeMeeting 5 = .ok (.ifCond .ne 31, 3) := by decide +kernel
theorem dX6_includeMeeting_8 : decode cX6_includeMeeting 8 = .ok (.aload_n 1, 1) := by decide +kernel
theorem dX6_includeMeeting_9 : decode cX6_includeMeeting 9 = .ok (.aload_n 2, 1) := by decide +kernel
theorem dX6_includeMeeting_10 : decode cX6_includeMeeting 10 = .ok (.invokevirtual 105, 3) := by decide +kernel
theorem dX6_includeMeeting_13 : decode cX6_includeMeeting 13 = .ok (.ifCond .eq 23, 3) := by decide +kernel
theorem dX6_includeMeeting_16 : decode cX6_includeMeeting 16 = .ok (.aload_n 1, 1) := by decide +kernel
theorem dX6_includeMeeting_17 : decode cX6_includeMeeting 17 = .ok (.aload_n 2, 1) := by decide +kernel
theorem dX6_includeMeeting_18 : decode cX6_includeMeeting 18 = .ok (.aload_n 0, 1) := by decide +kernel
theorem dX6_includeMeeting_19 : decode cX6_includeMeeting 19 = .ok (.getfield 58, 3) := by decide +kernel
theorem dX6_includeMeeting_22 : decode cX6_includeMeeting 22 = .ok (.invokevirtual 264, 3) := by decide +kernel
theorem dX6_includeMeeting_25 : decode cX6_includeMeeting 25 = .ok (.aload_n 0, 1) := by decide +kernel
theorem dX6_includeMeeting_26 : decode cX6_includeMeeting 26 = .ok (.getfield 28, 3) := by decide +kernel
theorem dX6_includeMeeting_29 : decode cX6_includeMeeting 29 = .ok (.aload_n 0, 1) := by decide +kernel
theorem dX6_includeMeeting_30 : decode cX6_includeMeeting 30 = .ok (.getfield 58, 3) := by decide +kernel
theorem dX6_includeMeeting_33 : decode cX6_includeMeeting 33 = .ok (.invokevirtual 247, 3) := by decide +kernel
theorem dX6_includeMeeting_36 : decode cX6_includeMeeting 36 = .ok (.return_, 1) := by decide +kernel
def f_X6_includeMeeting (F : Nat) (S : CS) (D : CD) (a0 : Nat) (a1 : Nat) (a2 : Nat) : Option CD := ckK S a1 4 <| cal (f_X4_isParallel F S D a1 a2) fun t3 => (if t3 = 0 then cal (f_X4_touches F S D a1 a2) fun t6 => (if t6 = 0 then some D else ckK S a0 6 <| cal (S.2.2.1 a0 6) fun p9 => cal (f_X4_putMeeting F S D a1 a2 p9) fun D12 => cal (S.2.2.1 a0 2) fun p13 => cal (S.2.2.1 a0 6) fun p15 => ckK S p13 5 <| cal (f_X5_include F S D12 p13 p15) fun D19 => some D19) else some D)
set_option maxRecDepth 100000 in
set_option maxHeartbeats 4000000 in
theorem m_X6_includeMeeting (l : Launch) (G : cG) (F : Nat) (S : CS) (D D2 : CD) (a0 : Nat) (a1 : Nat) (a2 : Nat) (h : f_X6_includeMeeting F S D a0 a1 a2 = some D2) : cMV l yX6_includeMeeting vX6_includeMeeting ({ frames := 4, cells := 0, slots := 0, locals := 109 }) G S [.ref a0, .ref a1, .ref a2] D D2 := by
  refine cBodyV (cc := cX6_includeMeeting) (maxL := 3) (ret := none) (own := RX6) (by decide) rfl rfl ?_
  intro sz p e s m below meth c hC hP
  have hC0 := hC
  obtain ⟨hx, hb, -, hts, hown, -, hml, -, -, -⟩ := hC0
  have hS : va_S (cA G S sz) s.heap s.heap [] := va_S.rf
  have hin_X6 : ∀ w ∈ wsX60, w ∈ vX6_includeMeeting := fun w h => List.mem_cons_of_mem _ (hWC6 w h)
  have fl_X6_probe := hts _ (List.mem_cons_of_mem _ wc_169)
  have fl_X6_corners := hts _ (List.mem_cons_of_mem _ wc_74)
  refine m_entry (Nat.le_of_ble_eq_true rfl) (fun ls hl => ?_)
  have hl : lv_has ls 3 [(0, .ref a0), (1, .ref a1), (2, .ref a2)] := hl
  unfold f_X6_includeMeeting at h
  refine lv_aload_n hx hb dX6_includeMeeting_0 rfl (lv_at hl 1 rfl) ?_
  refine lv_aload_n hx hb dX6_includeMeeting_1 rfl (lv_at hl 2 rfl) ?_
  obtain ⟨z1, h⟩ := ckK_el h
  obtain ⟨t3, e2, h⟩ := cal_el h
  refine c_VI (As := [.ref a2]) (rest := []) hC hP hS z1.1 (cE_4 z1.2) (C := RX4) (T := TX4) (N := 6) rfl (m_X4_isParallel l G F S D a1 a2 t3 e2) (cwV 1 hts (gWC wc_222 wc_223 wc_224 wc_48 wc_218) rfl rfl rfl (by decide +kernel) ⟨Nat.le_of_ble_eq_true rfl, Nat.le_of_ble_eq_true rfl⟩) rfl hl.1 rfl (Nat.le_of_ble_eq_true rfl) dX6_includeMeeting_2 (fun H locs hP hS => ?_)
  refine lv_if_ne (tgt := 36) hx hb dX6_includeMeeting_5 (by decide) (fun u4 => ?_) (fun u4 => ?_)
  · have h := ite_f u4 h
    cases h
    exact c_vret hC hP hS dX6_includeMeeting_36
  · have h := ite_t u4 h
    refine lv_aload_n hx hb dX6_includeMeeting_8 rfl (lv_at hl 1 rfl) ?_
    refine lv_aload_n hx hb dX6_includeMeeting_9 rfl (lv_at hl 2 rfl) ?_
    obtain ⟨t6, e5, h⟩ := cal_el h
    refine c_VI (As := [.ref a2]) (rest := []) hC hP hS z1.1 (cE_4 z1.2) (C := RX4) (T := TX4) (N := 6) rfl (m_X4_touches l G F S D a1 a2 t6 e5) (cwV 1 hts (gWC wc_70 wc_71 wc_72 wc_48 wc_50) rfl rfl rfl (by decide +kernel) ⟨Nat.le_of_ble_eq_true rfl, Nat.le_of_ble_eq_true rfl⟩) rfl hl.1 rfl (Nat.le_of_ble_eq_true rfl) dX6_includeMeeting_10 (fun H locs hP hS => ?_)
    refine lv_if_eq (tgt := 36) hx hb dX6_includeMeeting_13 (by decide) (fun u7 => ?_) (fun u7 => ?_)
    · have h := ite_t u7 h
      cases h
      exact c_vret hC hP hS dX6_includeMeeting_36
    · have h := ite_f u7 h
      refine lv_aload_n hx hb dX6_includeMeeting_16 rfl (lv_at hl 1 rfl) ?_
      refine lv_aload_n hx hb dX6_includeMeeting_17 rfl (lv_at hl 2 rfl) ?_
      refine lv_aload_n hx hb dX6_includeMeeting_18 rfl (lv_at hl 0 rfl) ?_
      obtain ⟨z8, h⟩ := ckK_el h
      obtain ⟨p9, e10, h⟩ := cal_el h
      refine c_get (C := RX6) (T := TX6) (N := 8) (ref := "SegmentMap") (ci := 7) (v := .ref p9) hC hin_X6 hP z8.1 (cE_6 z8.2) rfl 6 (by decide) fl_X6_probe rfl (by show some (va_rf (S.2.2.1 a0 6)) = _; rw [e10]; rfl) dX6_includeMeeting_19 ?_
      obtain ⟨D12, e11, h⟩ := cal_el h
      refine c_VV (As := [.ref a2, .ref p9]) (rest := []) hC hP hS z1.1 (cE_4 z1.2) (C := RX4) (T := TX4) (N := 6) rfl (m_X4_putMeeting l G F S D D12 a1 a2 p9 e11) (cwV 2 hts (gWC wc_225 wc_226 wc_227 wc_48 wc_219) rfl rfl rfl (by decide +kernel) ⟨Nat.le_of_ble_eq_true rfl, Nat.le_of_ble_eq_true rfl⟩) rfl hl.1 rfl (Nat.le_of_ble_eq_true rfl) dX6_includeMeeting_22 (fun H locs hP hS => ?_)
      refine lv_aload_n hx hb dX6_includeMeeting_25 rfl (lv_at hl 0 rfl) ?_
      obtain ⟨p13, e14, h⟩ := cal_el h
      refine c_get (C := RX6) (T := TX6) (N := 8) (ref := "SegmentMap") (ci := 7) (v := .ref p13) hC hin_X6 hP z8.1 (cE_6 z8.2) rfl 2 (by decide) fl_X6_corners rfl (by show some (va_rf (S.2.2.1 a0 2)) = _; rw [e14]; rfl) dX6_includeMeeting_26 ?_
      refine lv_aload_n hx hb dX6_includeMeeting_29 rfl (lv_at hl 0 rfl) ?_
      obtain ⟨p15, e16, h⟩ := cal_el h
      refine c_get (C := RX6) (T := TX6) (N := 8) (ref := "SegmentMap") (ci := 7) (v := .ref p15) hC hin_X6 hP z8.1 (cE_6 z8.2) rfl 6 (by decide) fl_X6_probe rfl (by show some (va_rf (S.2.2.1 a0 6)) = _; rw [e16]; rfl) dX6_includeMeeting_30 ?_
      obtain ⟨z17, h⟩ := ckK_el h
      obtain ⟨D19, e18, h⟩ := cal_el h
      refine c_VV (As := [.ref p15]) (rest := []) hC hP hS z17.1 (cE_5 z17.2) (C := RX5) (T := TX5) (N := 7) rfl (m_X5_include l G F S D12 D19 p13 p15 e18) (cwV 1 hts (gWC wc_228 wc_229 wc_230 wc_92 wc_210) rfl rfl rfl (by decide +kernel) ⟨Nat.le_of_ble_eq_true rfl, Nat.le_of_ble_eq_true rfl⟩) rfl hl.1 rfl (Nat.le_of_ble_eq_true rfl) dX6_includeMeeting_33 (fun H locs hP hS => ?_)
      cases h
      exact c_vret hC hP hS dX6_includeMeeting_36

theorem dX6_gatherVertices_0 : decode cX6_gatherVertices 0 = .ok (.aload_n 0, 1) := by decide +kernel
theorem dX6_gatherVertices_1 : decode cX6_gatherVertices 1 = .ok (.getfield 28, 3) := by decide +kernel
theorem dX6_gatherVertices_4 : decode cX6_gatherVertices 4 = .ok (.invokevirtual 238, 3) := by decide +kernel
theorem dX6_gatherVertices_7 : decode cX6_gatherVertices 7 = .ok (.iconst 0, 1) := by decide +kernel
theorem dX6_gatherVertices_8 : decode cX6_gatherVertices 8 = .ok (.istore_n 1, 1) := by decide +kernel
theorem dX6_gatherVertices_9 : decode cX6_gatherVertices 9 = .ok (.iload_n 1, 1) := by decide +kernel
theorem dX6_gatherVertices_10 : decode cX6_gatherVertices 10 = .ok (.aload_n 0, 1) := by decide +kernel
theorem dX6_gatherVertices_11 : decode cX6_gatherVertices 11 = .ok (.getfield 12, 3) := by decide +kernel
theorem dX6_gatherVertices_14 : decode cX6_gatherVertices 14 = .ok (.invokevirtual 75, 3) := by decide +kernel
theorem dX6_gatherVertices_17 : decode cX6_gatherVertices 17 = .ok (.if_icmp .ge 108, 3) := by decide +kernel
theorem dX6_gatherVertices_20 : decode cX6_gatherVertices 20 = .ok (.aload_n 0, 1) := by decide +kernel
theorem dX6_gatherVertices_21 : decode cX6_gatherVertices 21 = .ok (.getfield 12, 3) := by decide +kernel
theorem dX6_gatherVertices_24 : decode cX6_gatherVertices 24 = .ok (.iload_n 1, 1) := by decide +kernel
theorem dX6_gatherVertices_25 : decode cX6_gatherVertices 25 = .ok (.invokevirtual 172, 3) := by decide +kernel
theorem dX6_gatherVertices_28 : decode cX6_gatherVertices 28 = .ok (.checkcast 16, 3) := by decide +kernel
theorem dX6_gatherVertices_31 : decode cX6_gatherVertices 31 = .ok (.astore_n 2, 1) := by decide +kernel
theorem dX6_gatherVertices_32 : decode cX6_gatherVertices 32 = .ok (.aload_n 0, 1) := by decide +kernel
theorem dX6_gatherVertices_33 : decode cX6_gatherVertices 33 = .ok (.getfield 58, 3) := by decide +kernel
theorem dX6_gatherVertices_36 : decode cX6_gatherVertices 36 = .ok (.aload_n 2, 1) := by decide +kernel
theorem dX6_gatherVertices_37 : decode cX6_gatherVertices 37 = .ok (.getfield 241, 3) := by decide +kernel
theorem dX6_gatherVertices_40 : decode cX6_gatherVertices 40 = .ok (.i2l, 1) := by decide +kernel
theorem dX6_gatherVertices_41 : decode cX6_gatherVertices 41 = .ok (.aload_n 2, 1) := by decide +kernel
theorem dX6_gatherVertices_42 : decode cX6_gatherVertices 42 = .ok (.getfield 244, 3) := by decide +kernel
theorem dX6_gatherVertices_45 : decode cX6_gatherVertices 45 = .ok (.i2l, 1) := by decide +kernel
theorem dX6_gatherVertices_46 : decode cX6_gatherVertices 46 = .ok (.lconst 1, 1) := by decide +kernel
theorem dX6_gatherVertices_47 : decode cX6_gatherVertices 47 = .ok (.invokevirtual 168, 3) := by decide +kernel
theorem dX6_gatherVertices_50 : decode cX6_gatherVertices 50 = .ok (.aload_n 0, 1) := by decide +kernel
theorem dX6_gatherVertices_51 : decode cX6_gatherVertices 51 = .ok (.getfield 28, 3) := by decide +kernel
theorem dX6_gatherVertices_54 : decode cX6_gatherVertices 54 = .ok (.aload_n 0, 1) := by decide +kernel
theorem dX6_gatherVertices_55 : decode cX6_gatherVertices 55 = .ok (.getfield 58, 3) := by decide +kernel
theorem dX6_gatherVertices_58 : decode cX6_gatherVertices 58 = .ok (.invokevirtual 247, 3) := by decide +kernel
theorem dX6_gatherVertices_61 : decode cX6_gatherVertices 61 = .ok (.aload_n 0, 1) := by decide +kernel
theorem dX6_gatherVertices_62 : decode cX6_gatherVertices 62 = .ok (.getfield 58, 3) := by decide +kernel
theorem dX6_gatherVertices_65 : decode cX6_gatherVertices 65 = .ok (.aload_n 2, 1) := by decide +kernel
theorem dX6_gatherVertices_66 : decode cX6_gatherVertices 66 = .ok (.getfield 251, 3) := by decide +kernel
theorem dX6_gatherVertices_69 : decode cX6_gatherVertices 69 = .ok (.i2l, 1) := by decide +kernel
theorem dX6_gatherVertices_70 : decode cX6_gatherVertices 70 = .ok (.aload_n 2, 1) := by decide +kernel
theorem dX6_gatherVertices_71 : decode cX6_gatherVertices 71 = .ok (.getfield 254, 3) := by decide +kernel
theorem dX6_gatherVertices_74 : decode cX6_gatherVertices 74 = .ok (.i2l, 1) := by decide +kernel
theorem dX6_gatherVertices_75 : decode cX6_gatherVertices 75 = .ok (.lconst 1, 1) := by decide +kernel
theorem dX6_gatherVertices_76 : decode cX6_gatherVertices 76 = .ok (.invokevirtual 168, 3) := by decide +kernel
theorem dX6_gatherVertices_79 : decode cX6_gatherVertices 79 = .ok (.aload_n 0, 1) := by decide +kernel
theorem dX6_gatherVertices_80 : decode cX6_gatherVertices 80 = .ok (.getfield 28, 3) := by decide +kernel
theorem dX6_gatherVertices_83 : decode cX6_gatherVertices 83 = .ok (.aload_n 0, 1) := by decide +kernel
theorem dX6_gatherVertices_84 : decode cX6_gatherVertices 84 = .ok (.getfield 58, 3) := by decide +kernel
theorem dX6_gatherVertices_87 : decode cX6_gatherVertices 87 = .ok (.invokevirtual 247, 3) := by decide +kernel
theorem dX6_gatherVertices_90 : decode cX6_gatherVertices 90 = .ok (.iconst 0, 1) := by decide +kernel
theorem dX6_gatherVertices_91 : decode cX6_gatherVertices 91 = .ok (.istore_n 3, 1) := by decide +kernel
theorem dX6_gatherVertices_92 : decode cX6_gatherVertices 92 = .ok (.iload_n 3, 1) := by decide +kernel
theorem dX6_gatherVertices_93 : decode cX6_gatherVertices 93 = .ok (.iload_n 1, 1) := by decide +kernel
theorem dX6_gatherVertices_94 : decode cX6_gatherVertices 94 = .ok (.if_icmp .ge 25, 3) := by decide +kernel
theorem dX6_gatherVertices_97 : decode cX6_gatherVertices 97 = .ok (.aload_n 0, 1) := by decide +kernel
theorem dX6_gatherVertices_98 : decode cX6_gatherVertices 98 = .ok (.aload_n 2, 1) := by decide +kernel
theorem dX6_gatherVertices_99 : decode cX6_gatherVertices 99 = .ok (.aload_n 0, 1) := by decide +kernel
theorem dX6_gatherVertices_100 : decode cX6_gatherVertices 100 = .ok (.getfield 12, 3) := by decide +kernel
theorem dX6_gatherVertices_103 : decode cX6_gatherVertices 103 = .ok (.iload_n 3, 1) := by decide +kernel
theorem dX6_gatherVertices_104 : decode cX6_gatherVertices 104 = .ok (.invokevirtual 172, 3) := by decide +kernel
theorem dX6_gatherVertices_107 : decode cX6_gatherVertices 107 = .ok (.checkcast 16, 3) := by decide +kernel
theorem dX6_gatherVertices_110 : decode cX6_gatherVertices 110 = .ok (.invokevirtual 257, 3) := by decide +kernel
theorem dX6_gatherVertices_113 : decode cX6_gatherVertices 113 = .ok (.iinc 3 1, 3) := by decide +kernel
theorem dX6_gatherVertices_116 : decode cX6_gatherVertices 116 = .ok (.goto (-24), 3) := by decide +kernel
theorem dX6_gatherVertices_119 : decode cX6_gatherVertices 119 = .ok (.iinc 1 1, 3) := by decide +kernel
theorem dX6_gatherVertices_122 : decode cX6_gatherVertices 122 = .ok (.goto (-113), 3) := by decide +kernel
theorem dX6_gatherVertices_125 : decode cX6_gatherVertices 125 = .ok (.return_, 1) := by decide +kernel
def f_X6_gatherVertices_L92 (F : Nat) (S : CS) (a0 : Nat) (k9 : CD → Int32 → Option CD) : Nat → CD → Int32 → Nat → Int32 → Option CD
  | 0, _, _, _, _ => none
  | n92 + 1, D, x1, x2, x3 => (if x1 ≤ x3 then k9 D (x1 + 1) else ckK S a0 6 <| cal (S.2.2.1 a0 0) fun p3 => ckK S p3 7 <| cal (f_Jx4a65c_get_915e3 F S D p3 x3) fun t7 => ckK S t7 4 <| cal (f_X6_includeMeeting F S D a0 x2 t7) fun D10 => (f_X6_gatherVertices_L92 F S a0 k9 n92) D10 x1 x2 (x3 + 1))
def f_X6_gatherVertices_L9 (F : Nat) (S : CS) (a0 : Nat) : Nat → CD → Int32 → Option CD
  | 0, _, _ => none
  | n9 + 1, D, x1 => ckK S a0 6 <| cal (S.2.2.1 a0 0) fun p2 => ckK S p2 7 <| cal (f_Jx4a65c_size_8abf5 F S D p2) fun t6 => (if t6 ≤ x1 then some D else cal (S.2.2.1 a0 0) fun p8 => ckK S p8 7 <| cal (f_Jx4a65c_get_915e3 F S D p8 x1) fun t12 => ckK S t12 4 <| cal (S.2.2.1 a0 6) fun p14 => ckK S p14 2 <| cal (f_X2_put F S D p14 ((D.1 t12 0).toInt64) ((D.1 t12 1).toInt64) 1) fun D18 => cal (S.2.2.1 a0 2) fun p19 => cal (S.2.2.1 a0 6) fun p21 => ckK S p19 5 <| cal (f_X5_include F S D18 p19 p21) fun D25 => cal (S.2.2.1 a0 6) fun p26 => ckK S p26 2 <| cal (f_X2_put F S D25 p26 ((D25.1 t12 2).toInt64) ((D25.1 t12 3).toInt64) 1) fun D30 => cal (S.2.2.1 a0 2) fun p31 => cal (S.2.2.1 a0 6) fun p33 => ckK S p31 5 <| cal (f_X5_include F S D30 p31 p33) fun D37 => f_X6_gatherVertices_L92 F S a0 ((f_X6_gatherVertices_L9 F S a0 n9)) F D37 x1 t12 0)
def f_X6_gatherVertices (F : Nat) (S : CS) (D : CD) (a0 : Nat) : Option CD := ckK S a0 6 <| cal (S.2.2.1 a0 2) fun p2 => ckK S p2 5 <| cal (f_X5_clear F S D p2) fun D6 => f_X6_gatherVertices_L9 F S a0 F D6 0
set_option maxRecDepth 100000 in
set_option maxHeartbeats 4000000 in
theorem m_X6_gatherVertices (l : Launch) (G : cG) (F : Nat) (S : CS) (D D2 : CD) (a0 : Nat) (h : f_X6_gatherVertices F S D a0 = some D2) : cMV l yX6_gatherVertices vX6_gatherVertices ({ frames := 5, cells := 0, slots := 0, locals := 131 }) G S [.ref a0] D D2 := by
  refine cBodyV (cc := cX6_gatherVertices) (maxL := 4) (ret := none) (own := RX6) (by decide) rfl rfl ?_
  intro sz p e s m below meth c hC hP
  have hC0 := hC
  obtain ⟨hx, hb, -, hts, hown, -, hml, -, -, -⟩ := hC0
  have hS : va_S (cA G S sz) s.heap s.heap [] := va_S.rf
  have hin_X4 : ∀ w ∈ wsX40, w ∈ vX6_gatherVertices := fun w h => List.mem_cons_of_mem _ (hWC4 w h)
  have hin_X6 : ∀ w ∈ wsX60, w ∈ vX6_gatherVertices := fun w h => List.mem_cons_of_mem _ (hWC6 w h)
  have fl_X6_corners := hts _ (List.mem_cons_of_mem _ wc_74)
  have fl_X6_lines := hts _ (List.mem_cons_of_mem _ wc_3)
  have fl_X6_probe := hts _ (List.mem_cons_of_mem _ wc_169)
  have cl_X4 := hts _ (List.mem_cons_of_mem _ wc_24)
  have L9 : ∀ (n9 : Nat) (H : Heap) (locs : List Loc) (ls : Array Slot) (D : CD) (x1 : Int32), va_P G.1 vwCl (cW G S D) H → va_S (cA G S sz) s.heap H locs → lv_has ls 4 [(0, .ref a0), (1, .int x1)] → f_X6_gatherVertices_L9 F S a0 n9 D x1 = some D2 → W p l e (headSpec vX6_gatherVertices ({ frames := 5, cells := 0, slots := 0, locals := 131 })).room s m ([.ref a0] : List Value).toArray below meth c H locs 0 0 (cQV below G S D2 sz ([.ref a0] : List Value).toArray s) (F0 m 9 ls []) := by
    intro n9
    induction n9 with
    | zero =>
      intro H locs ls D x1 hP hS hl h
      rw [f_X6_gatherVertices_L9] at h; cases h
    | succ n9 ih9 =>
      have L92 : ∀ (n92 : Nat) (H : Heap) (locs : List Loc) (ls : Array Slot) (D : CD) (x1 : Int32) (x2 : Nat) (x3 : Int32), va_P G.1 vwCl (cW G S D) H → va_S (cA G S sz) s.heap H locs → lv_has ls 4 [(0, .ref a0), (1, .int x1), (2, .ref x2), (3, .int x3)] → f_X6_gatherVertices_L92 F S a0 ((f_X6_gatherVertices_L9 F S a0 n9)) n92 D x1 x2 x3 = some D2 → W p l e (headSpec vX6_gatherVertices ({ frames := 5, cells := 0, slots := 0, locals := 131 })).room s m ([.ref a0] : List Value).toArray below meth c H locs 0 0 (cQV below G S D2 sz ([.ref a0] : List Value).toArray s) (F0 m 92 ls []) := by
        intro n92
        induction n92 with
        | zero =>
          intro H locs ls D x1 x2 x3 hP hS hl h
          rw [f_X6_gatherVertices_L92] at h; cases h
        | succ n92 ih92 =>
          intro H locs ls D x1 x2 x3 hP hS hl h
          rw [f_X6_gatherVertices_L92] at h
          refine lv_iload_n hx hb dX6_gatherVertices_92 rfl (lv_at hl 3 rfl) ?_
          refine lv_iload_n hx hb dX6_gatherVertices_93 rfl (lv_at hl 1 rfl) ?_
          refine lv_icmp_ge (tgt := 119) hx hb dX6_gatherVertices_94 (by decide) (fun u1 => ?_) (fun u1 => ?_)
          · have h := ite_t u1 h
            refine lv_iinc (v := x1 + 1) (lv' := [(1, .int (x1 + 1)), (0, .ref a0), (2, .ref x2), (3, .int x3)]) hx hb dX6_gatherVertices_119 hl (k := 1) rfl rfl (by decide) rfl (fun ls hl => ?_)
            refine lv_goto (tgt := 9) hx hb dX6_gatherVertices_122 (by decide) ?_
            exact ih9 _ _ _ D (x1 + 1) hP hS (lv_sub hl [1, 0] rfl) h
          · have h := ite_f u1 h
            refine lv_aload_n hx hb dX6_gatherVertices_97 rfl (lv_at hl 0 rfl) ?_
            refine lv_aload_n hx hb dX6_gatherVertices_98 rfl (lv_at hl 2 rfl) ?_
            refine lv_aload_n hx hb dX6_gatherVertices_99 rfl (lv_at hl 0 rfl) ?_
            obtain ⟨z2, h⟩ := ckK_el h
            obtain ⟨p3, e4, h⟩ := cal_el h
            refine c_get (C := RX6) (T := TX6) (N := 8) (ref := "SegmentMap") (ci := 7) (v := .ref p3) hC hin_X6 hP z2.1 (cE_6 z2.2) rfl 0 (by decide) fl_X6_lines rfl (by show some (va_rf (S.2.2.1 a0 0)) = _; rw [e4]; rfl) dX6_gatherVertices_100 ?_
            refine lv_iload_n hx hb dX6_gatherVertices_103 rfl (lv_at hl 3 rfl) ?_
            obtain ⟨z5, h⟩ := ckK_el h
            obtain ⟨t7, e6, h⟩ := cal_el h
            refine c_VA (As := [.int x3]) (rest := [.ref x2, .ref a0]) hC hP hS z5.1 (cE_7 z5.2) (C := RJx4a65c) (T := TJx4a65c) (N := 3) rfl (m_Jx4a65c_get_915e3 l G F S D p3 x3 t7 e6) (cwV 1 hts (gWC wc_26 wc_27 wc_28 wc_7 wc_16) rfl rfl rfl (by decide +kernel) ⟨Nat.le_of_ble_eq_true rfl, Nat.le_of_ble_eq_true rfl⟩) rfl hl.1 rfl (Nat.le_of_ble_eq_true rfl) dX6_gatherVertices_104 (fun H locs hP hS => ?_)
            obtain ⟨z8, h⟩ := ckK_el h
            refine c_cast (C := RX4) (T := TX4) (N := 6) (ci := 5) hC hP z8.1 (cE_4 z8.2) rfl cl_X4 dX6_gatherVertices_107 ?_
            obtain ⟨D10, e9, h⟩ := cal_el h
            refine c_VV (As := [.ref x2, .ref t7]) (rest := []) hC hP hS z2.1 (cE_6 z2.2) (C := RX6) (T := TX6) (N := 8) rfl (m_X6_includeMeeting l G F S D D10 a0 x2 t7 e9) (cwV 2 hts (gWC wc_235 wc_236 wc_237 wc_66 wc_221) rfl rfl rfl (by decide +kernel) ⟨Nat.le_of_ble_eq_true rfl, Nat.le_of_ble_eq_true rfl⟩) rfl hl.1 rfl (Nat.le_of_ble_eq_true rfl) dX6_gatherVertices_110 (fun H locs hP hS => ?_)
            refine lv_iinc (v := x3 + 1) (lv' := [(3, .int (x3 + 1)), (0, .ref a0), (1, .int x1), (2, .ref x2)]) hx hb dX6_gatherVertices_113 hl (k := 3) rfl rfl (by decide) rfl (fun ls hl => ?_)
            refine lv_goto (tgt := 92) hx hb dX6_gatherVertices_116 (by decide) ?_
            exact ih92 _ _ _ D10 x1 x2 (x3 + 1) hP hS (lv_sub hl [1, 2, 3, 0] rfl) h
      intro H locs ls D x1 hP hS hl h
      rw [f_X6_gatherVertices_L9] at h
      refine lv_iload_n hx hb dX6_gatherVertices_9 rfl (lv_at hl 1 rfl) ?_
      refine lv_aload_n hx hb dX6_gatherVertices_10 rfl (lv_at hl 0 rfl) ?_
      obtain ⟨z1, h⟩ := ckK_el h
      obtain ⟨p2, e3, h⟩ := cal_el h
      refine c_get (C := RX6) (T := TX6) (N := 8) (ref := "SegmentMap") (ci := 7) (v := .ref p2) hC hin_X6 hP z1.1 (cE_6 z1.2) rfl 0 (by decide) fl_X6_lines rfl (by show some (va_rf (S.2.2.1 a0 0)) = _; rw [e3]; rfl) dX6_gatherVertices_11 ?_
      obtain ⟨z4, h⟩ := ckK_el h
      obtain ⟨t6, e5, h⟩ := cal_el h
      refine c_VI (As := []) (rest := [.int x1]) hC hP hS z4.1 (cE_7 z4.2) (C := RJx4a65c) (T := TJx4a65c) (N := 3) rfl (m_Jx4a65c_size_8abf5 l G F S D p2 t6 e5) (cwV 0 hts (gWC wc_4 wc_5 wc_6 wc_7 wc_0) rfl rfl rfl (by decide +kernel) ⟨Nat.le_of_ble_eq_true rfl, Nat.le_of_ble_eq_true rfl⟩) rfl hl.1 rfl (Nat.le_of_ble_eq_true rfl) dX6_gatherVertices_14 (fun H locs hP hS => ?_)
      refine lv_icmp_ge (tgt := 125) hx hb dX6_gatherVertices_17 (by decide) (fun u7 => ?_) (fun u7 => ?_)
      · have h := ite_t u7 h
        cases h
        exact c_vret hC hP hS dX6_gatherVertices_125
      · have h := ite_f u7 h
        refine lv_aload_n hx hb dX6_gatherVertices_20 rfl (lv_at hl 0 rfl) ?_
        obtain ⟨p8, e9, h⟩ := cal_el h
        refine c_get (C := RX6) (T := TX6) (N := 8) (ref := "SegmentMap") (ci := 7) (v := .ref p8) hC hin_X6 hP z1.1 (cE_6 z1.2) rfl 0 (by decide) fl_X6_lines rfl (by show some (va_rf (S.2.2.1 a0 0)) = _; rw [e9]; rfl) dX6_gatherVertices_21 ?_
        refine lv_iload_n hx hb dX6_gatherVertices_24 rfl (lv_at hl 1 rfl) ?_
        obtain ⟨z10, h⟩ := ckK_el h
        obtain ⟨t12, e11, h⟩ := cal_el h
        refine c_VA (As := [.int x1]) (rest := []) hC hP hS z10.1 (cE_7 z10.2) (C := RJx4a65c) (T := TJx4a65c) (N := 3) rfl (m_Jx4a65c_get_915e3 l G F S D p8 x1 t12 e11) (cwV 1 hts (gWC wc_26 wc_27 wc_28 wc_7 wc_16) rfl rfl rfl (by decide +kernel) ⟨Nat.le_of_ble_eq_true rfl, Nat.le_of_ble_eq_true rfl⟩) rfl hl.1 rfl (Nat.le_of_ble_eq_true rfl) dX6_gatherVertices_25 (fun H locs hP hS => ?_)
        obtain ⟨z13, h⟩ := ckK_el h
        refine c_cast (C := RX4) (T := TX4) (N := 6) (ci := 5) hC hP z13.1 (cE_4 z13.2) rfl cl_X4 dX6_gatherVertices_28 ?_
        refine lv_astore_n (lv' := [(2, .ref t12), (0, .ref a0), (1, .int x1)]) hx hb dX6_gatherVertices_31 rfl hl (by decide) rfl (fun ls hl => ?_)
        refine lv_aload_n hx hb dX6_gatherVertices_32 rfl (lv_at hl 1 rfl) ?_
        obtain ⟨p14, e15, h⟩ := cal_el h
        refine c_get (C := RX6) (T := TX6) (N := 8) (ref := "SegmentMap") (ci := 7) (v := .ref p14) hC hin_X6 hP z1.1 (cE_6 z1.2) rfl 6 (by decide) fl_X6_probe rfl (by show some (va_rf (S.2.2.1 a0 6)) = _; rw [e15]; rfl) dX6_gatherVertices_33 ?_
        refine lv_aload_n hx hb dX6_gatherVertices_36 rfl (lv_at hl 0 rfl) ?_
        refine c_getN (C := RX4) (T := TX4) (N := 6) (ref := "SegmentMap$Segment") (ci := 5) (v := .int (D.1 t12 0)) hC hin_X4 hP z13.1 (cE_4 z13.2) rfl 0 (by decide) (nm := "startX") (ds := "I") (List.mem_of_getElem? (i := 14) rfl) rfl rfl dX6_gatherVertices_37 ?_
        refine lv_i2l (v := (D.1 t12 0).toInt64) hx hb dX6_gatherVertices_40 rfl ?_
        refine lv_aload_n hx hb dX6_gatherVertices_41 rfl (lv_at hl 0 rfl) ?_
        refine c_getN (C := RX4) (T := TX4) (N := 6) (ref := "SegmentMap$Segment") (ci := 5) (v := .int (D.1 t12 1)) hC hin_X4 hP z13.1 (cE_4 z13.2) rfl 1 (by decide) (nm := "startY") (ds := "I") (List.mem_of_getElem? (i := 15) rfl) rfl rfl dX6_gatherVertices_42 ?_
        refine lv_i2l (v := (D.1 t12 1).toInt64) hx hb dX6_gatherVertices_45 rfl ?_
        refine lv_lconst (v := 1) hx hb dX6_gatherVertices_46 (by decide) ?_
        obtain ⟨z16, h⟩ := ckK_el h
        obtain ⟨D18, e17, h⟩ := cal_el h
        refine c_VV (As := [.long ((D.1 t12 0).toInt64), .long ((D.1 t12 1).toInt64), .long 1]) (rest := []) hC hP hS z16.1 (cE_2 z16.2) (C := RX2) (T := TX2) (N := 4) rfl (m_X2_put l G F S D D18 p14 ((D.1 t12 0).toInt64) ((D.1 t12 1).toInt64) 1 e17) (cwV 3 hts (gWC wc_173 wc_174 wc_175 wc_131 wc_123) rfl rfl rfl (by decide +kernel) ⟨Nat.le_of_ble_eq_true rfl, Nat.le_of_ble_eq_true rfl⟩) rfl hl.1 rfl (Nat.le_of_ble_eq_true rfl) dX6_gatherVertices_47 (fun H locs hP hS => ?_)
        refine lv_aload_n hx hb dX6_gatherVertices_50 rfl (lv_at hl 1 rfl) ?_
        obtain ⟨p19, e20, h⟩ := cal_el h
        refine c_get (C := RX6) (T := TX6) (N := 8) (ref := "SegmentMap") (ci := 7) (v := .ref p19) hC hin_X6 hP z1.1 (cE_6 z1.2) rfl 2 (by decide) fl_X6_corners rfl (by show some (va_rf (S.2.2.1 a0 2)) = _; rw [e20]; rfl) dX6_gatherVertices_51 ?_
        refine lv_aload_n hx hb dX6_gatherVertices_54 rfl (lv_at hl 1 rfl) ?_
        obtain ⟨p21, e22, h⟩ := cal_el h
        refine c_get (C := RX6) (T := TX6) (N := 8) (ref := "SegmentMap") (ci := 7) (v := .ref p21) hC hin_X6 hP z1.1 (cE_6 z1.2) rfl 6 (by decide) fl_X6_probe rfl (by show some (va_rf (S.2.2.1 a0 6)) = _; rw [e22]; rfl) dX6_gatherVertices_55 ?_
        obtain ⟨z23, h⟩ := ckK_el h
        obtain ⟨D25, e24, h⟩ := cal_el h
        refine c_VV (As := [.ref p21]) (rest := []) hC hP hS z23.1 (cE_5 z23.2) (C := RX5) (T := TX5) (N := 7) rfl (m_X5_include l G F S D18 D25 p19 p21 e24) (cwV 1 hts (gWC wc_228 wc_229 wc_230 wc_92 wc_210) rfl rfl rfl (by decide +kernel) ⟨Nat.le_of_ble_eq_true rfl, Nat.le_of_ble_eq_true rfl⟩) rfl hl.1 rfl (Nat.le_of_ble_eq_true rfl) dX6_gatherVertices_58 (fun H locs hP hS => ?_)
        refine lv_aload_n hx hb dX6_gatherVertices_61 rfl (lv_at hl 1 rfl) ?_
        obtain ⟨p26, e27, h⟩ := cal_el h
        refine c_get (C := RX6) (T := TX6) (N := 8) (ref := "SegmentMap") (ci := 7) (v := .ref p26) hC hin_X6 hP z1.1 (cE_6 z1.2) rfl 6 (by decide) fl_X6_probe rfl (by show some (va_rf (S.2.2.1 a0 6)) = _; rw [e27]; rfl) dX6_gatherVertices_62 ?_
        refine lv_aload_n hx hb dX6_gatherVertices_65 rfl (lv_at hl 0 rfl) ?_
        refine c_getN (C := RX4) (T := TX4) (N := 6) (ref := "SegmentMap$Segment") (ci := 5) (v := .int (D25.1 t12 2)) hC hin_X4 hP z13.1 (cE_4 z13.2) rfl 2 (by decide) (nm := "endX") (ds := "I") (List.mem_of_getElem? (i := 16) rfl) rfl rfl dX6_gatherVertices_66 ?_
        refine lv_i2l (v := (D25.1 t12 2).toInt64) hx hb dX6_gatherVertices_69 rfl ?_
        refine lv_aload_n hx hb dX6_gatherVertices_70 rfl (lv_at hl 0 rfl) ?_
        refine c_getN (C := RX4) (T := TX4) (N := 6) (ref := "SegmentMap$Segment") (ci := 5) (v := .int (D25.1 t12 3)) hC hin_X4 hP z13.1 (cE_4 z13.2) rfl 3 (by decide) (nm := "endY") (ds := "I") (List.mem_of_getElem? (i := 17) rfl) rfl rfl dX6_gatherVertices_71 ?_
        refine lv_i2l (v := (D25.1 t12 3).toInt64) hx hb dX6_gatherVertices_74 rfl ?_
        refine lv_lconst (v := 1) hx hb dX6_gatherVertices_75 (by decide) ?_
        obtain ⟨z28, h⟩ := ckK_el h
        obtain ⟨D30, e29, h⟩ := cal_el h
        refine c_VV (As := [.long ((D25.1 t12 2).toInt64), .long ((D25.1 t12 3).toInt64), .long 1]) (rest := []) hC hP hS z28.1 (cE_2 z28.2) (C := RX2) (T := TX2) (N := 4) rfl (m_X2_put l G F S D25 D30 p26 ((D25.1 t12 2).toInt64) ((D25.1 t12 3).toInt64) 1 e29) (cwV 3 hts (gWC wc_173 wc_174 wc_175 wc_131 wc_123) rfl rfl rfl (by decide +kernel) ⟨Nat.le_of_ble_eq_true rfl, Nat.le_of_ble_eq_true rfl⟩) rfl hl.1 rfl (Nat.le_of_ble_eq_true rfl) dX6_gatherVertices_76 (fun H locs hP hS => ?_)
        refine lv_aload_n hx hb dX6_gatherVertices_79 rfl (lv_at hl 1 rfl) ?_
        obtain ⟨p31, e32, h⟩ := cal_el h
        refine c_get (C := RX6) (T := TX6) (N := 8) (ref := "SegmentMap") (ci := 7) (v := .ref p31) hC hin_X6 hP z1.1 (cE_6 z1.2) rfl 2 (by decide) fl_X6_corners rfl (by show some (va_rf (S.2.2.1 a0 2)) = _; rw [e32]; rfl) dX6_gatherVertices_80 ?_
        refine lv_aload_n hx hb dX6_gatherVertices_83 rfl (lv_at hl 1 rfl) ?_
        obtain ⟨p33, e34, h⟩ := cal_el h
        refine c_get (C := RX6) (T := TX6) (N := 8) (ref := "SegmentMap") (ci := 7) (v := .ref p33) hC hin_X6 hP z1.1 (cE_6 z1.2) rfl 6 (by decide) fl_X6_probe rfl (by show some (va_rf (S.2.2.1 a0 6)) = _; rw [e34]; rfl) dX6_gatherVertices_84 ?_
        obtain ⟨z35, h⟩ := ckK_el h
        obtain ⟨D37, e36, h⟩ := cal_el h
        refine c_VV (As := [.ref p33]) (rest := []) hC hP hS z35.1 (cE_5 z35.2) (C := RX5) (T := TX5) (N := 7) rfl (m_X5_include l G F S D30 D37 p31 p33 e36) (cwV 1 hts (gWC wc_228 wc_229 wc_230 wc_92 wc_210) rfl rfl rfl (by decide +kernel) ⟨Nat.le_of_ble_eq_true rfl, Nat.le_of_ble_eq_true rfl⟩) rfl hl.1 rfl (Nat.le_of_ble_eq_true rfl) dX6_gatherVertices_87 (fun H locs hP hS => ?_)
        refine lv_iconst (v := 0) hx hb dX6_gatherVertices_90 (by decide) ?_
        refine lv_istore_n (lv' := [(3, .int 0), (2, .ref t12), (0, .ref a0), (1, .int x1)]) hx hb dX6_gatherVertices_91 rfl hl (by decide) rfl (fun ls hl => ?_)
        exact L92 F _ _ _ D37 x1 t12 0 hP hS (lv_sub hl [2, 3, 1, 0] rfl) h
  refine m_entry (Nat.le_of_ble_eq_true rfl) (fun ls hl => ?_)
  have hl : lv_has ls 4 [(0, .ref a0)] := hl
  unfold f_X6_gatherVertices at h
  refine lv_aload_n hx hb dX6_gatherVertices_0 rfl (lv_at hl 0 rfl) ?_
  obtain ⟨z1, h⟩ := ckK_el h
  obtain ⟨p2, e3, h⟩ := cal_el h
  refine c_get (C := RX6) (T := TX6) (N := 8) (ref := "SegmentMap") (ci := 7) (v := .ref p2) hC hin_X6 hP z1.1 (cE_6 z1.2) rfl 2 (by decide) fl_X6_corners rfl (by show some (va_rf (S.2.2.1 a0 2)) = _; rw [e3]; rfl) dX6_gatherVertices_1 ?_
  obtain ⟨z4, h⟩ := ckK_el h
  obtain ⟨D6, e5, h⟩ := cal_el h
  refine c_VV (As := []) (rest := []) hC hP hS z4.1 (cE_5 z4.2) (C := RX5) (T := TX5) (N := 7) rfl (m_X5_clear l G F S D D6 p2 e5) (cwV 0 hts (gWC wc_232 wc_233 wc_234 wc_92 wc_197) rfl rfl rfl (by decide +kernel) ⟨Nat.le_of_ble_eq_true rfl, Nat.le_of_ble_eq_true rfl⟩) rfl hl.1 rfl (Nat.le_of_ble_eq_true rfl) dX6_gatherVertices_4 (fun H locs hP hS => ?_)
  refine lv_iconst (v := 0) hx hb dX6_gatherVertices_7 (by decide) ?_
  refine lv_istore_n (lv' := [(1, .int 0), (0, .ref a0)]) hx hb dX6_gatherVertices_8 rfl hl (by decide) rfl (fun ls hl => ?_)
  exact L9 F _ _ _ D6 0 hP hS (lv_sub hl [1, 0] rfl) h

theorem dX0_clear_0 : decode cX0_clear 0 = .ok (.aload_n 0, 1) := by decide +kernel
theorem dX0_clear_1 : decode cX0_clear 1 = .ok (.iconst 0, 1) := by decide +kernel
theorem dX0_clear_2 : decode cX0_clear 2 = .ok (.putfield 32, 3) := by decide +kernel
theorem dX0_clear_5 : decode cX0_clear 5 = .ok (.return_, 1) := by decide +kernel
def f_X0_clear (F : Nat) (S : CS) (D : CD) (a0 : Nat) : Option CD := ckK S a0 0 <| cfW D a0 5 0 fun D2 => some D2
set_option maxRecDepth 100000 in
set_option maxHeartbeats 4000000 in
theorem m_X0_clear (l : Launch) (G : cG) (F : Nat) (S : CS) (D D2 : CD) (a0 : Nat) (h : f_X0_clear F S D a0 = some D2) : cMV l yX0_clear vX0_clear ({ frames := 0, cells := 0, slots := 0, locals := 0 }) G S [.ref a0] D D2 := by
  refine cBodyV (cc := cX0_clear) (maxL := 1) (ret := none) (own := RX0) (by decide) rfl rfl ?_
  intro sz p e s m below meth c hC hP
  have hC0 := hC
  obtain ⟨hx, hb, -, hts, hown, -, hml, -, -, -⟩ := hC0
  have hS : va_S (cA G S sz) s.heap s.heap [] := va_S.rf
  have hin_X0 : ∀ w ∈ wsX00, w ∈ vX0_clear := fun w h => List.mem_cons_of_mem _ (hWC0 w h)
  have fl_X0_count := hts _ (List.mem_cons_of_mem _ wc_239)
  refine m_entry (Nat.le_of_ble_eq_true rfl) (fun ls hl => ?_)
  have hl : lv_has ls 1 [(0, .ref a0)] := hl
  unfold f_X0_clear at h
  refine lv_aload_n hx hb dX0_clear_0 rfl (lv_at hl 0 rfl) ?_
  refine lv_iconst (v := 0) hx hb dX0_clear_1 (by decide) ?_
  obtain ⟨z1, h⟩ := ckK_el h
  obtain ⟨D2, e3, h⟩ := cfW_el h
  refine c_putI (C := RX0) (T := TX0) (N := 6) (ref := "SegmentMap$Edges") (ci := 1) hC hin_X0 tyX0 tyX0_ok nmX0 hP hS z1.1 (cE_0 z1.2) rfl 5 (by decide) fl_X0_count rfl rfl (by decide +kernel) (Nat.le_of_ble_eq_true rfl) e3 (cset_0_5 G z1.2 _) dX0_clear_2 (fun H locs hP hS => ?_)
  cases h
  exact c_vret hC hP hS dX0_clear_5

theorem dX3_set_0 : decode cX3_set 0 = .ok (.iload_n 1, 1) := by decide +kernel
theorem dX3_set_1 : decode cX3_set 1 = .ok (.ifCond .lt 19, 3) := by decide +kernel
theorem dX3_set_4 : decode cX3_set 4 = .ok (.iload_n 1, 1) := by decide +kernel
theorem dX3_set_5 : decode cX3_set 5 = .ok (.aload_n 0, 1) := by decide +kernel
theorem dX3_set_6 : decode cX3_set 6 = .ok (.getfield 9, 3) := by decide +kernel
theorem dX3_set_9 : decode cX3_set 9 = .ok (.arraylength, 1) := by decide +kernel
theorem dX3_set_10 : decode cX3_set 10 = .ok (.if_icmp .ge 10, 3) := by decide +kernel
theorem dX3_set_13 : decode cX3_set 13 = .ok (.aload_n 0, 1) := by decide +kernel
theorem dX3_set_14 : decode cX3_set 14 = .ok (.getfield 9, 3) := by decide +kernel
theorem dX3_set_17 : decode cX3_set 17 = .ok (.iload_n 1, 1) := by decide +kernel
theorem dX3_set_18 : decode cX3_set 18 = .ok (.iload_n 2, 1) := by decide +kernel
theorem dX3_set_19 : decode cX3_set 19 = .ok (.iastore, 1) := by decide +kernel
theorem dX3_set_20 : decode cX3_set 20 = .ok (.return_, 1) := by decide +kernel
def f_X3_set (F : Nat) (S : CS) (D : CD) (a0 : Nat) (a1 : Int32) (a2 : Int32) : Option CD := (if a1 < 0 then some D else ckK S a0 3 <| cal (S.2.2.1 a0 0) fun p3 => ckK S p3 8 <| (if (Int32.ofNat (S.2.2.2 p3)) ≤ a1 then some D else cal (S.2.2.1 a0 0) fun p7 => ckK S p7 8 <| ciW S D p7 a1 a2 fun D11 => some D11))
set_option maxRecDepth 100000 in
set_option maxHeartbeats 4000000 in
theorem m_X3_set (l : Launch) (G : cG) (F : Nat) (S : CS) (D D2 : CD) (a0 : Nat) (a1 : Int32) (a2 : Int32) (h : f_X3_set F S D a0 a1 a2 = some D2) : cMV l yX3_set vX3_set ({ frames := 0, cells := 0, slots := 0, locals := 0 }) G S [.ref a0, .int a1, .int a2] D D2 := by
  refine cBodyV (cc := cX3_set) (maxL := 3) (ret := none) (own := RX3) (by decide) rfl rfl ?_
  intro sz p e s m below meth c hC hP
  have hC0 := hC
  obtain ⟨hx, hb, -, hts, hown, -, hml, -, -, -⟩ := hC0
  have hS : va_S (cA G S sz) s.heap s.heap [] := va_S.rf
  have hin_X3 : ∀ w ∈ wsX30, w ∈ vX3_set := fun w h => List.mem_cons_of_mem _ (hWC3 w h)
  have fl_X3_cells := hts _ (List.mem_cons_of_mem _ wc_97)
  refine m_entry (Nat.le_of_ble_eq_true rfl) (fun ls hl => ?_)
  have hl : lv_has ls 3 [(0, .ref a0), (1, .int a1), (2, .int a2)] := hl
  unfold f_X3_set at h
  refine lv_iload_n hx hb dX3_set_0 rfl (lv_at hl 1 rfl) ?_
  refine lv_if_lt (tgt := 20) hx hb dX3_set_1 (by decide) (fun u1 => ?_) (fun u1 => ?_)
  · have h := ite_t u1 h
    cases h
    exact c_vret hC hP hS dX3_set_20
  · have h := ite_f u1 h
    refine lv_iload_n hx hb dX3_set_4 rfl (lv_at hl 1 rfl) ?_
    refine lv_aload_n hx hb dX3_set_5 rfl (lv_at hl 0 rfl) ?_
    obtain ⟨z2, h⟩ := ckK_el h
    obtain ⟨p3, e4, h⟩ := cal_el h
    refine c_get (C := RX3) (T := TX3) (N := 1) (ref := "SegmentMap$Row") (ci := 4) (v := .ref p3) hC hin_X3 hP z2.1 (cE_3 z2.2) rfl 0 (by decide) fl_X3_cells rfl (by show some (va_rf (S.2.2.1 a0 0)) = _; rw [e4]; rfl) dX3_set_6 ?_
    obtain ⟨z5, h⟩ := ckK_el h
    refine c_alen hC hP z5.1 (by omega) (by omega) dX3_set_9 ?_
    refine lv_icmp_ge (tgt := 20) hx hb dX3_set_10 (by decide) (fun u6 => ?_) (fun u6 => ?_)
    · have h := ite_t u6 h
      cases h
      exact c_vret hC hP hS dX3_set_20
    · have h := ite_f u6 h
      refine lv_aload_n hx hb dX3_set_13 rfl (lv_at hl 0 rfl) ?_
      obtain ⟨p7, e8, h⟩ := cal_el h
      refine c_get (C := RX3) (T := TX3) (N := 1) (ref := "SegmentMap$Row") (ci := 4) (v := .ref p7) hC hin_X3 hP z2.1 (cE_3 z2.2) rfl 0 (by decide) fl_X3_cells rfl (by show some (va_rf (S.2.2.1 a0 0)) = _; rw [e8]; rfl) dX3_set_14 ?_
      refine lv_iload_n hx hb dX3_set_17 rfl (lv_at hl 1 rfl) ?_
      refine lv_iload_n hx hb dX3_set_18 rfl (lv_at hl 2 rfl) ?_
      obtain ⟨z9, h⟩ := ckK_el h
      obtain ⟨y10, D11, e12, h⟩ := ciW_el h
      refine c_ist hC hP hS z9.1 z9.2 y10 e12 dX3_set_19 (fun H locs hP hS => ?_)
      cases h
      exact c_vret hC hP hS dX3_set_20

theorem dX0_append_0 : decode cX0_append 0 = .ok (.aload_n 0, 1) := by decide +kernel
theorem dX0_append_1 : decode cX0_append 1 = .ok (.getfield 14, 3) := by decide +kernel
theorem dX0_append_4 : decode cX0_append 4 = .ok (.aload_n 0, 1) := by decide +kernel
theorem dX0_append_5 : decode cX0_append 5 = .ok (.getfield 32, 3) := by decide +kernel
theorem dX0_append_8 : decode cX0_append 8 = .ok (.iload_n 1, 1) := by decide +kernel
theorem dX0_append_9 : decode cX0_append 9 = .ok (.invokevirtual 36, 3) := by decide +kernel
theorem dX0_append_12 : decode cX0_append 12 = .ok (.aload_n 0, 1) := by decide +kernel
theorem dX0_append_13 : decode cX0_append 13 = .ok (.getfield 20, 3) := by decide +kernel
theorem dX0_append_16 : decode cX0_append 16 = .ok (.aload_n 0, 1) := by decide +kernel
theorem dX0_append_17 : decode cX0_append 17 = .ok (.getfield 32, 3) := by decide +kernel
theorem dX0_append_20 : decode cX0_append 20 = .ok (.iload_n 2, 1) := by decide +kernel
theorem dX0_append_21 : decode cX0_append 21 = .ok (.invokevirtual 36, 3) := by decide +kernel
theorem dX0_append_24 : decode cX0_append 24 = .ok (.aload_n 0, 1) := by decide +kernel
theorem dX0_append_25 : decode cX0_append 25 = .ok (.getfield 23, 3) := by decide +kernel
theorem dX0_append_28 : decode cX0_append 28 = .ok (.aload_n 0, 1) := by decide +kernel
theorem dX0_append_29 : decode cX0_append 29 = .ok (.getfield 32, 3) := by decide +kernel
theorem dX0_append_32 : decode cX0_append 32 = .ok (.iload_n 3, 1) := by decide +kernel
theorem dX0_append_33 : decode cX0_append 33 = .ok (.invokevirtual 36, 3) := by decide +kernel
theorem dX0_append_36 : decode cX0_append 36 = .ok (.aload_n 0, 1) := by decide +kernel
theorem dX0_append_37 : decode cX0_append 37 = .ok (.getfield 29, 3) := by decide +kernel
theorem dX0_append_40 : decode cX0_append 40 = .ok (.iconst 2, 1) := by decide +kernel
theorem dX0_append_41 : decode cX0_append 41 = .ok (.aload_n 0, 1) := by decide +kernel
theorem dX0_append_42 : decode cX0_append 42 = .ok (.getfield 32, 3) := by decide +kernel
theorem dX0_append_45 : decode cX0_append 45 = .ok (.imul, 1) := by decide +kernel
theorem dX0_append_46 : decode cX0_append 46 = .ok (.iconst (-1), 1) := by decide +kernel
theorem dX0_append_47 : decode cX0_append 47 = .ok (.invokevirtual 36, 3) := by decide +kernel
theorem dX0_append_50 : decode cX0_append 50 = .ok (.aload_n 0, 1) := by decide +kernel
theorem dX0_append_51 : decode cX0_append 51 = .ok (.getfield 29, 3) := by decide +kernel
theorem dX0_append_54 : decode cX0_append 54 = .ok (.iconst 2, 1) := by decide +kernel
theorem dX0_append_55 : decode cX0_append 55 = .ok (.aload_n 0, 1) := by decide +kernel
theorem dX0_append_56 : decode cX0_append 56 = .ok (.getfield 32, 3) := by decide +kernel
theorem dX0_append_59 : decode cX0_append 59 = .ok (.imul, 1) := by decide +kernel
theorem dX0_append_60 : decode cX0_append 60 = .ok (.iconst 1, 1) := by decide +kernel
theorem dX0_append_61 : decode cX0_append 61 = .ok (.iadd, 1) := by decide +kernel
theorem dX0_append_62 : decode cX0_append 62 = .ok (.iconst (-1), 1) := by decide +kernel
theorem dX0_append_63 : decode cX0_append 63 = .ok (.invokevirtual 36, 3) := by decide +kernel
theorem dX0_append_66 : decode cX0_append 66 = .ok (.aload_n 0, 1) := by decide +kernel
theorem dX0_append_67 : decode cX0_append 67 = .ok (.dup, 1) := by decide +kernel
theorem dX0_append_68 : decode cX0_append 68 = .ok (.getfield 32, 3) := by decide +kernel
theorem dX0_append_71 : decode cX0_append 71 = .ok (.iconst 1, 1) := by decide +kernel
theorem dX0_append_72 : decode cX0_append 72 = .ok (.iadd, 1) := by decide +kernel
theorem dX0_append_73 : decode cX0_append 73 = .ok (.putfield 32, 3) := by decide +kernel
theorem dX0_append_76 : decode cX0_append 76 = .ok (.return_, 1) := by decide +kernel
def f_X0_append (F : Nat) (S : CS) (D : CD) (a0 : Nat) (a1 : Int32) (a2 : Int32) (a3 : Int32) : Option CD := ckK S a0 0 <| cal (S.2.2.1 a0 0) fun p2 => ckK S p2 3 <| cal (f_X3_set F S D p2 (D.1 a0 5) a1) fun D6 => cal (S.2.2.1 a0 1) fun p7 => ckK S p7 3 <| cal (f_X3_set F S D6 p7 (D6.1 a0 5) a2) fun D11 => cal (S.2.2.1 a0 2) fun p12 => ckK S p12 3 <| cal (f_X3_set F S D11 p12 (D11.1 a0 5) a3) fun D16 => cal (S.2.2.1 a0 4) fun p17 => ckK S p17 3 <| cal (f_X3_set F S D16 p17 (2 * (D16.1 a0 5)) ((-1))) fun D21 => cal (S.2.2.1 a0 4) fun p22 => ckK S p22 3 <| cal (f_X3_set F S D21 p22 ((2 * (D21.1 a0 5)) + 1) ((-1))) fun D26 => cfW D26 a0 5 ((D26.1 a0 5) + 1) fun D27 => some D27
set_option maxRecDepth 100000 in
set_option maxHeartbeats 4000000 in
theorem m_X0_append (l : Launch) (G : cG) (F : Nat) (S : CS) (D D2 : CD) (a0 : Nat) (a1 : Int32) (a2 : Int32) (a3 : Int32) (h : f_X0_append F S D a0 a1 a2 a3 = some D2) : cMV l yX0_append vX0_append ({ frames := 1, cells := 0, slots := 0, locals := 22 }) G S [.ref a0, .int a1, .int a2, .int a3] D D2 := by
  refine cBodyV (cc := cX0_append) (maxL := 4) (ret := none) (own := RX0) (by decide) rfl rfl ?_
  intro sz p e s m below meth c hC hP
  have hC0 := hC
  obtain ⟨hx, hb, -, hts, hown, -, hml, -, -, -⟩ := hC0
  have hS : va_S (cA G S sz) s.heap s.heap [] := va_S.rf
  have hin_X0 : ∀ w ∈ wsX00, w ∈ vX0_append := fun w h => List.mem_cons_of_mem _ (hWC0 w h)
  have fl_X0_line := hts _ (List.mem_cons_of_mem _ wc_242)
  have fl_X0_count := hts _ (List.mem_cons_of_mem _ wc_239)
  have fl_X0_start := hts _ (List.mem_cons_of_mem _ wc_243)
  have fl_X0_end := hts _ (List.mem_cons_of_mem _ wc_244)
  have fl_X0_face := hts _ (List.mem_cons_of_mem _ wc_245)
  refine m_entry (Nat.le_of_ble_eq_true rfl) (fun ls hl => ?_)
  have hl : lv_has ls 4 [(0, .ref a0), (1, .int a1), (2, .int a2), (3, .int a3)] := hl
  unfold f_X0_append at h
  refine lv_aload_n hx hb dX0_append_0 rfl (lv_at hl 0 rfl) ?_
  obtain ⟨z1, h⟩ := ckK_el h
  obtain ⟨p2, e3, h⟩ := cal_el h
  refine c_get (C := RX0) (T := TX0) (N := 6) (ref := "SegmentMap$Edges") (ci := 1) (v := .ref p2) hC hin_X0 hP z1.1 (cE_0 z1.2) rfl 0 (by decide) fl_X0_line rfl (by show some (va_rf (S.2.2.1 a0 0)) = _; rw [e3]; rfl) dX0_append_1 ?_
  refine lv_aload_n hx hb dX0_append_4 rfl (lv_at hl 0 rfl) ?_
  refine c_get (C := RX0) (T := TX0) (N := 6) (ref := "SegmentMap$Edges") (ci := 1) (v := .int (D.1 a0 5)) hC hin_X0 hP z1.1 (cE_0 z1.2) rfl 5 (by decide) fl_X0_count rfl rfl dX0_append_5 ?_
  refine lv_iload_n hx hb dX0_append_8 rfl (lv_at hl 1 rfl) ?_
  obtain ⟨z4, h⟩ := ckK_el h
  obtain ⟨D6, e5, h⟩ := cal_el h
  refine c_VV (As := [.int (D.1 a0 5), .int a1]) (rest := []) hC hP hS z4.1 (cE_3 z4.2) (C := RX3) (T := TX3) (N := 1) rfl (m_X3_set l G F S D D6 p2 (D.1 a0 5) a1 e5) (cwV 2 hts (gWC wc_246 wc_247 wc_248 wc_102 wc_240) rfl rfl rfl (by decide +kernel) ⟨Nat.le_of_ble_eq_true rfl, Nat.le_of_ble_eq_true rfl⟩) rfl hl.1 rfl (Nat.le_of_ble_eq_true rfl) dX0_append_9 (fun H locs hP hS => ?_)
  refine lv_aload_n hx hb dX0_append_12 rfl (lv_at hl 0 rfl) ?_
  obtain ⟨p7, e8, h⟩ := cal_el h
  refine c_get (C := RX0) (T := TX0) (N := 6) (ref := "SegmentMap$Edges") (ci := 1) (v := .ref p7) hC hin_X0 hP z1.1 (cE_0 z1.2) rfl 1 (by decide) fl_X0_start rfl (by show some (va_rf (S.2.2.1 a0 1)) = _; rw [e8]; rfl) dX0_append_13 ?_
  refine lv_aload_n hx hb dX0_append_16 rfl (lv_at hl 0 rfl) ?_
  refine c_get (C := RX0) (T := TX0) (N := 6) (ref := "SegmentMap$Edges") (ci := 1) (v := .int (D6.1 a0 5)) hC hin_X0 hP z1.1 (cE_0 z1.2) rfl 5 (by decide) fl_X0_count rfl rfl dX0_append_17 ?_
  refine lv_iload_n hx hb dX0_append_20 rfl (lv_at hl 2 rfl) ?_
  obtain ⟨z9, h⟩ := ckK_el h
  obtain ⟨D11, e10, h⟩ := cal_el h
  refine c_VV (As := [.int (D6.1 a0 5), .int a2]) (rest := []) hC hP hS z9.1 (cE_3 z9.2) (C := RX3) (T := TX3) (N := 1) rfl (m_X3_set l G F S D6 D11 p7 (D6.1 a0 5) a2 e10) (cwV 2 hts (gWC wc_246 wc_247 wc_248 wc_102 wc_240) rfl rfl rfl (by decide +kernel) ⟨Nat.le_of_ble_eq_true rfl, Nat.le_of_ble_eq_true rfl⟩) rfl hl.1 rfl (Nat.le_of_ble_eq_true rfl) dX0_append_21 (fun H locs hP hS => ?_)
  refine lv_aload_n hx hb dX0_append_24 rfl (lv_at hl 0 rfl) ?_
  obtain ⟨p12, e13, h⟩ := cal_el h
  refine c_get (C := RX0) (T := TX0) (N := 6) (ref := "SegmentMap$Edges") (ci := 1) (v := .ref p12) hC hin_X0 hP z1.1 (cE_0 z1.2) rfl 2 (by decide) fl_X0_end rfl (by show some (va_rf (S.2.2.1 a0 2)) = _; rw [e13]; rfl) dX0_append_25 ?_
  refine lv_aload_n hx hb dX0_append_28 rfl (lv_at hl 0 rfl) ?_
  refine c_get (C := RX0) (T := TX0) (N := 6) (ref := "SegmentMap$Edges") (ci := 1) (v := .int (D11.1 a0 5)) hC hin_X0 hP z1.1 (cE_0 z1.2) rfl 5 (by decide) fl_X0_count rfl rfl dX0_append_29 ?_
  refine lv_iload_n hx hb dX0_append_32 rfl (lv_at hl 3 rfl) ?_
  obtain ⟨z14, h⟩ := ckK_el h
  obtain ⟨D16, e15, h⟩ := cal_el h
  refine c_VV (As := [.int (D11.1 a0 5), .int a3]) (rest := []) hC hP hS z14.1 (cE_3 z14.2) (C := RX3) (T := TX3) (N := 1) rfl (m_X3_set l G F S D11 D16 p12 (D11.1 a0 5) a3 e15) (cwV 2 hts (gWC wc_246 wc_247 wc_248 wc_102 wc_240) rfl rfl rfl (by decide +kernel) ⟨Nat.le_of_ble_eq_true rfl, Nat.le_of_ble_eq_true rfl⟩) rfl hl.1 rfl (Nat.le_of_ble_eq_true rfl) dX0_append_33 (fun H locs hP hS => ?_)
  refine lv_aload_n hx hb dX0_append_36 rfl (lv_at hl 0 rfl) ?_
  obtain ⟨p17, e18, h⟩ := cal_el h
  refine c_get (C := RX0) (T := TX0) (N := 6) (ref := "SegmentMap$Edges") (ci := 1) (v := .ref p17) hC hin_X0 hP z1.1 (cE_0 z1.2) rfl 4 (by decide) fl_X0_face rfl (by show some (va_rf (S.2.2.1 a0 4)) = _; rw [e18]; rfl) dX0_append_37 ?_
  refine lv_iconst (v := 2) hx hb dX0_append_40 (by decide) ?_
  refine lv_aload_n hx hb dX0_append_41 rfl (lv_at hl 0 rfl) ?_
  refine c_get (C := RX0) (T := TX0) (N := 6) (ref := "SegmentMap$Edges") (ci := 1) (v := .int (D16.1 a0 5)) hC hin_X0 hP z1.1 (cE_0 z1.2) rfl 5 (by decide) fl_X0_count rfl rfl dX0_append_42 ?_
  refine lv_imul hx hb dX0_append_45 ?_
  refine lv_iconst (v := (-1)) hx hb dX0_append_46 (by decide) ?_
  obtain ⟨z19, h⟩ := ckK_el h
  obtain ⟨D21, e20, h⟩ := cal_el h
  refine c_VV (As := [.int (2 * (D16.1 a0 5)), .int ((-1))]) (rest := []) hC hP hS z19.1 (cE_3 z19.2) (C := RX3) (T := TX3) (N := 1) rfl (m_X3_set l G F S D16 D21 p17 (2 * (D16.1 a0 5)) ((-1)) e20) (cwV 2 hts (gWC wc_246 wc_247 wc_248 wc_102 wc_240) rfl rfl rfl (by decide +kernel) ⟨Nat.le_of_ble_eq_true rfl, Nat.le_of_ble_eq_true rfl⟩) rfl hl.1 rfl (Nat.le_of_ble_eq_true rfl) dX0_append_47 (fun H locs hP hS => ?_)
  refine lv_aload_n hx hb dX0_append_50 rfl (lv_at hl 0 rfl) ?_
  obtain ⟨p22, e23, h⟩ := cal_el h
  refine c_get (C := RX0) (T := TX0) (N := 6) (ref := "SegmentMap$Edges") (ci := 1) (v := .ref p22) hC hin_X0 hP z1.1 (cE_0 z1.2) rfl 4 (by decide) fl_X0_face rfl (by show some (va_rf (S.2.2.1 a0 4)) = _; rw [e23]; rfl) dX0_append_51 ?_
  refine lv_iconst (v := 2) hx hb dX0_append_54 (by decide) ?_
  refine lv_aload_n hx hb dX0_append_55 rfl (lv_at hl 0 rfl) ?_
  refine c_get (C := RX0) (T := TX0) (N := 6) (ref := "SegmentMap$Edges") (ci := 1) (v := .int (D21.1 a0 5)) hC hin_X0 hP z1.1 (cE_0 z1.2) rfl 5 (by decide) fl_X0_count rfl rfl dX0_append_56 ?_
  refine lv_imul hx hb dX0_append_59 ?_
  refine lv_iconst (v := 1) hx hb dX0_append_60 (by decide) ?_
  refine lv_iadd hx hb dX0_append_61 ?_
  refine lv_iconst (v := (-1)) hx hb dX0_append_62 (by decide) ?_
  obtain ⟨z24, h⟩ := ckK_el h
  obtain ⟨D26, e25, h⟩ := cal_el h
  refine c_VV (As := [.int ((2 * (D21.1 a0 5)) + 1), .int ((-1))]) (rest := []) hC hP hS z24.1 (cE_3 z24.2) (C := RX3) (T := TX3) (N := 1) rfl (m_X3_set l G F S D21 D26 p22 ((2 * (D21.1 a0 5)) + 1) ((-1)) e25) (cwV 2 hts (gWC wc_246 wc_247 wc_248 wc_102 wc_240) rfl rfl rfl (by decide +kernel) ⟨Nat.le_of_ble_eq_true rfl, Nat.le_of_ble_eq_true rfl⟩) rfl hl.1 rfl (Nat.le_of_ble_eq_true rfl) dX0_append_63 (fun H locs hP hS => ?_)
  refine lv_aload_n hx hb dX0_append_66 rfl (lv_at hl 0 rfl) ?_
  refine lv_dup hx hb dX0_append_67 rfl ?_
  refine c_get (C := RX0) (T := TX0) (N := 6) (ref := "SegmentMap$Edges") (ci := 1) (v := .int (D26.1 a0 5)) hC hin_X0 hP z1.1 (cE_0 z1.2) rfl 5 (by decide) fl_X0_count rfl rfl dX0_append_68 ?_
  refine lv_iconst (v := 1) hx hb dX0_append_71 (by decide) ?_
  refine lv_iadd hx hb dX0_append_72 ?_
  obtain ⟨D27, e28, h⟩ := cfW_el h
  refine c_putI (C := RX0) (T := TX0) (N := 6) (ref := "SegmentMap$Edges") (ci := 1) hC hin_X0 tyX0 tyX0_ok nmX0 hP hS z1.1 (cE_0 z1.2) rfl 5 (by decide) fl_X0_count rfl rfl (by decide +kernel) (Nat.le_of_ble_eq_true rfl) e28 (cset_0_5 G z1.2 _) dX0_append_73 (fun H locs hP hS => ?_)
  cases h
  exact c_vret hC hP hS dX0_append_76

theorem dX6_gatherEdges_0 : decode cX6_gatherEdges 0 = .ok (.aload_n 0, 1) := by decide +kernel
theorem dX6_gatherEdges_1 : decode cX6_gatherEdges 1 = .ok (.getfield 35, 3) := by decide +kernel
theorem dX6_gatherEdges_4 : decode cX6_gatherEdges 4 = .ok (.invokevirtual 268, 3) := by decide +kernel
theorem dX6_gatherEdges_7 : decode cX6_gatherEdges 7 = .ok (.iconst 0, 1) := by decide +kernel
theorem dX6_gatherEdges_8 : decode cX6_gatherEdges 8 = .ok (.istore_n 1, 1) := by decide +kernel
theorem dX6_gatherEdges_9 : decode cX6_gatherEdges 9 = .ok (.iload_n 1, 1) := by decide +kernel
theorem dX6_gatherEdges_10 : decode cX6_gatherEdges 10 = .ok (.aload_n 0, 1) := by decide +kernel
theorem dX6_gatherEdges_11 : decode cX6_gatherEdges 11 = .ok (.getfield 12, 3) := by decide +kernel
theorem dX6_gatherEdges_14 : decode cX6_gatherEdges 14 = .ok (.invokevirtual 75, 3) := by decide +kernel
theorem dX6_gatherEdges_17 : decode cX6_gatherEdges 17 = .ok (.if_icmp .ge 72, 3) := by decide +kernel
theorem dX6_gatherEdges_20 : decode cX6_gatherEdges 20 = .ok (.iconst (-1), 1) := by decide +kernel
theorem dX6_gatherEdges_21 : decode cX6_gatherEdges 21 = .ok (.istore_n 2, 1) := by decide +kernel
theorem dX6_gatherEdges_22 : decode cX6_gatherEdges 22 = .ok (.iconst 0, 1) := by decide +kernel
theorem dX6_gatherEdges_23 : decode cX6_gatherEdges 23 = .ok (.istore_n 3, 1) := by decide +kernel
theorem dX6_gatherEdges_24 : decode cX6_gatherEdges 24 = .ok (.iload_n 3, 1) := by decide +kernel
theorem dX6_gatherEdges_25 : decode cX6_gatherEdges 25 = .ok (.aload_n 0, 1) := by decide +kernel
theorem dX6_gatherEdges_26 : decode cX6_gatherEdges 26 = .ok (.getfield 28, 3) := by decide +kernel
theorem dX6_gatherEdges_29 : decode cX6_gatherEdges 29 = .ok (.getfield 108, 3) := by decide +kernel
theorem dX6_gatherEdges_32 : decode cX6_gatherEdges 32 = .ok (.if_icmp .ge 51, 3) := by decide +kernel
theorem dX6_gatherEdges_35 : decode cX6_gatherEdges 35 = .ok (.aload_n 0, 1) := by decide +kernel
theorem dX6_gatherEdges_36 : decode cX6_gatherEdges 36 = .ok (.getfield 12, 3) := by decide +kernel
theorem dX6_gatherEdges_39 : decode cX6_gatherEdges 39 = .ok (.iload_n 1, 1) := by decide +kernel
theorem dX6_gatherEdges_40 : decode cX6_gatherEdges 40 = .ok (.invokevirtual 172, 3) := by decide +kernel
theorem dX6_gatherEdges_43 : decode cX6_gatherEdges 43 = .ok (.checkcast 16, 3) := by decide +kernel
theorem dX6_gatherEdges_46 : decode cX6_gatherEdges 46 = .ok (.aload_n 0, 1) := by decide +kernel
theorem dX6_gatherEdges_47 : decode cX6_gatherEdges 47 = .ok (.getfield 28, 3) := by decide +kernel
theorem dX6_gatherEdges_50 : decode cX6_gatherEdges 50 = .ok (.iload_n 3, 1) := by decide +kernel
theorem dX6_gatherEdges_51 : decode cX6_gatherEdges 51 = .ok (.invokevirtual 120, 3) := by decide +kernel
theorem dX6_gatherEdges_54 : decode cX6_gatherEdges 54 = .ok (.invokevirtual 174, 3) := by decide +kernel
theorem dX6_gatherEdges_57 : decode cX6_gatherEdges 57 = .ok (.ifCond .eq 20, 3) := by decide +kernel
theorem dX6_gatherEdges_60 : decode cX6_gatherEdges 60 = .ok (.iload_n 2, 1) := by decide +kernel
theorem dX6_gatherEdges_61 : decode cX6_gatherEdges 61 = .ok (.iconst (-1), 1) := by decide +kernel
theorem dX6_gatherEdges_62 : decode cX6_gatherEdges 62 = .ok (.if_icmp .eq 13, 3) := by decide +kernel
theorem dX6_gatherEdges_65 : decode cX6_gatherEdges 65 = .ok (.aload_n 0, 1) := by decide +kernel
theorem dX6_gatherEdges_66 : decode cX6_gatherEdges 66 = .ok (.getfield 35, 3) := by decide +kernel
theorem dX6_gatherEdges_69 : decode cX6_gatherEdges 69 = .ok (.iload_n 1, 1) := by decide +kernel
theorem dX6_gatherEdges_70 : decode cX6_gatherEdges 70 = .ok (.iload_n 2, 1) := by decide +kernel
theorem dX6_gatherEdges_71 : decode cX6_gatherEdges 71 = .ok (.iload_n 3, 1) := by decide +kernel
theorem dX6_gatherEdges_72 : decode cX6_gatherEdges 72 = .ok (.invokevirtual 269, 3) := by decide +kernel
theorem dX6_gatherEdges_75 : decode cX6_gatherEdges 75 = .ok (.iload_n 3, 1) := by decide +kernel
theorem dX6_gatherEdges_76 : decode cX6_gatherEdges 76 = .ok (.istore_n 2, 1) := by decide +kernel
theorem dX6_gatherEdges_77 : decode cX6_gatherEdges 77 = .ok (.iinc 3 1, 3) := by decide +kernel
theorem dX6_gatherEdges_80 : decode cX6_gatherEdges 80 = .ok (.goto (-56), 3) := by decide +kernel
theorem dX6_gatherEdges_83 : decode cX6_gatherEdges 83 = .ok (.iinc 1 1, 3) := by decide +kernel
theorem dX6_gatherEdges_86 : decode cX6_gatherEdges 86 = .ok (.goto (-77), 3) := by decide +kernel
theorem dX6_gatherEdges_89 : decode cX6_gatherEdges 89 = .ok (.return_, 1) := by decide +kernel
def f_X6_gatherEdges_b77 (F : Nat) (S : CS) (a0 : Nat) (k9 : CD → Int32 → Option CD) (k24 : CD → Int32 → Int32 → Int32 → Option CD) (D : CD) (x1 : Int32) (x2 : Int32) (x3 : Int32) : Option CD := k24 D x1 x2 (x3 + 1)
def f_X6_gatherEdges_L24 (F : Nat) (S : CS) (a0 : Nat) (k9 : CD → Int32 → Option CD) : Nat → CD → Int32 → Int32 → Int32 → Option CD
  | 0, _, _, _, _ => none
  | n24 + 1, D, x1, x2, x3 => ckK S a0 6 <| cal (S.2.2.1 a0 2) fun p2 => ckK S p2 5 <| (if (D.1 p2 6) ≤ x3 then k9 D (x1 + 1) else cal (S.2.2.1 a0 0) fun p6 => ckK S p6 7 <| cal (f_Jx4a65c_get_915e3 F S D p6 x1) fun t10 => ckK S t10 4 <| cal (S.2.2.1 a0 2) fun p12 => ckK S p12 5 <| cal (f_X5_at F S D p12 x3) fun t16 => cal (f_X4_holds F S D t10 t16) fun t18 => (if t18 = 0 then f_X6_gatherEdges_b77 F S a0 k9 ((f_X6_gatherEdges_L24 F S a0 k9 n24)) D x1 x2 x3 else (if x2 = ((-1)) then f_X6_gatherEdges_b77 F S a0 k9 ((f_X6_gatherEdges_L24 F S a0 k9 n24)) D x1 x3 x3 else cal (S.2.2.1 a0 3) fun p21 => ckK S p21 0 <| cal (f_X0_append F S D p21 x1 x2 x3) fun D25 => f_X6_gatherEdges_b77 F S a0 k9 ((f_X6_gatherEdges_L24 F S a0 k9 n24)) D25 x1 x3 x3)))
def f_X6_gatherEdges_L9 (F : Nat) (S : CS) (a0 : Nat) : Nat → CD → Int32 → Option CD
  | 0, _, _ => none
  | n9 + 1, D, x1 => ckK S a0 6 <| cal (S.2.2.1 a0 0) fun p2 => ckK S p2 7 <| cal (f_Jx4a65c_size_8abf5 F S D p2) fun t6 => (if t6 ≤ x1 then some D else f_X6_gatherEdges_L24 F S a0 ((f_X6_gatherEdges_L9 F S a0 n9)) F D x1 ((-1)) 0)
def f_X6_gatherEdges (F : Nat) (S : CS) (D : CD) (a0 : Nat) : Option CD := ckK S a0 6 <| cal (S.2.2.1 a0 3) fun p2 => ckK S p2 0 <| cal (f_X0_clear F S D p2) fun D6 => f_X6_gatherEdges_L9 F S a0 F D6 0
set_option maxRecDepth 100000 in
set_option maxHeartbeats 4000000 in
theorem m_X6_gatherEdges (l : Launch) (G : cG) (F : Nat) (S : CS) (D D2 : CD) (a0 : Nat) (h : f_X6_gatherEdges F S D a0 = some D2) : cMV l yX6_gatherEdges vX6_gatherEdges ({ frames := 3, cells := 0, slots := 0, locals := 65 }) G S [.ref a0] D D2 := by
  refine cBodyV (cc := cX6_gatherEdges) (maxL := 4) (ret := none) (own := RX6) (by decide) rfl rfl ?_
  intro sz p e s m below meth c hC hP
  have hC0 := hC
  obtain ⟨hx, hb, -, hts, hown, -, hml, -, -, -⟩ := hC0
  have hS : va_S (cA G S sz) s.heap s.heap [] := va_S.rf
  have hin_X5 : ∀ w ∈ wsX50, w ∈ vX6_gatherEdges := fun w h => List.mem_cons_of_mem _ (hWC5 w h)
  have hin_X6 : ∀ w ∈ wsX60, w ∈ vX6_gatherEdges := fun w h => List.mem_cons_of_mem _ (hWC6 w h)
  have fl_X6_pieces := hts _ (List.mem_cons_of_mem _ wc_76)
  have fl_X6_lines := hts _ (List.mem_cons_of_mem _ wc_3)
  have fl_X6_corners := hts _ (List.mem_cons_of_mem _ wc_74)
  have cl_X4 := hts _ (List.mem_cons_of_mem _ wc_24)
  have L9 : ∀ (n9 : Nat) (H : Heap) (locs : List Loc) (ls : Array Slot) (D : CD) (x1 : Int32), va_P G.1 vwCl (cW G S D) H → va_S (cA G S sz) s.heap H locs → lv_has ls 4 [(0, .ref a0), (1, .int x1)] → f_X6_gatherEdges_L9 F S a0 n9 D x1 = some D2 → W p l e (headSpec vX6_gatherEdges ({ frames := 3, cells := 0, slots := 0, locals := 65 })).room s m ([.ref a0] : List Value).toArray below meth c H locs 0 0 (cQV below G S D2 sz ([.ref a0] : List Value).toArray s) (F0 m 9 ls []) := by
    intro n9
    induction n9 with
    | zero =>
      intro H locs ls D x1 hP hS hl h
      rw [f_X6_gatherEdges_L9] at h; cases h
    | succ n9 ih9 =>
      have L24 : ∀ (n24 : Nat) (H : Heap) (locs : List Loc) (ls : Array Slot) (D : CD) (x1 : Int32) (x2 : Int32) (x3 : Int32), va_P G.1 vwCl (cW G S D) H → va_S (cA G S sz) s.heap H locs → lv_has ls 4 [(0, .ref a0), (1, .int x1), (2, .int x2), (3, .int x3)] → f_X6_gatherEdges_L24 F S a0 ((f_X6_gatherEdges_L9 F S a0 n9)) n24 D x1 x2 x3 = some D2 → W p l e (headSpec vX6_gatherEdges ({ frames := 3, cells := 0, slots := 0, locals := 65 })).room s m ([.ref a0] : List Value).toArray below meth c H locs 0 0 (cQV below G S D2 sz ([.ref a0] : List Value).toArray s) (F0 m 24 ls []) := by
        intro n24
        induction n24 with
        | zero =>
          intro H locs ls D x1 x2 x3 hP hS hl h
          rw [f_X6_gatherEdges_L24] at h; cases h
        | succ n24 ih24 =>
          have b77 : ∀ (H : Heap) (locs : List Loc) (ls : Array Slot) (D : CD) (x1 : Int32) (x2 : Int32) (x3 : Int32), va_P G.1 vwCl (cW G S D) H → va_S (cA G S sz) s.heap H locs → lv_has ls 4 [(0, .ref a0), (1, .int x1), (2, .int x2), (3, .int x3)] → f_X6_gatherEdges_b77 F S a0 ((f_X6_gatherEdges_L9 F S a0 n9)) ((f_X6_gatherEdges_L24 F S a0 ((f_X6_gatherEdges_L9 F S a0 n9)) n24)) D x1 x2 x3 = some D2 → W p l e (headSpec vX6_gatherEdges ({ frames := 3, cells := 0, slots := 0, locals := 65 })).room s m ([.ref a0] : List Value).toArray below meth c H locs 0 0 (cQV below G S D2 sz ([.ref a0] : List Value).toArray s) (F0 m 77 ls []) := by
            intro H locs ls D x1 x2 x3 hP hS hl h
            unfold f_X6_gatherEdges_b77 at h
            refine lv_iinc (v := x3 + 1) (lv' := [(3, .int (x3 + 1)), (0, .ref a0), (1, .int x1), (2, .int x2)]) hx hb dX6_gatherEdges_77 hl (k := 3) rfl rfl (by decide) rfl (fun ls hl => ?_)
            refine lv_goto (tgt := 24) hx hb dX6_gatherEdges_80 (by decide) ?_
            exact ih24 _ _ _ D x1 x2 (x3 + 1) hP hS (lv_sub hl [1, 2, 3, 0] rfl) h
          intro H locs ls D x1 x2 x3 hP hS hl h
          rw [f_X6_gatherEdges_L24] at h
          refine lv_iload_n hx hb dX6_gatherEdges_24 rfl (lv_at hl 3 rfl) ?_
          refine lv_aload_n hx hb dX6_gatherEdges_25 rfl (lv_at hl 0 rfl) ?_
          obtain ⟨z1, h⟩ := ckK_el h
          obtain ⟨p2, e3, h⟩ := cal_el h
          refine c_get (C := RX6) (T := TX6) (N := 8) (ref := "SegmentMap") (ci := 7) (v := .ref p2) hC hin_X6 hP z1.1 (cE_6 z1.2) rfl 2 (by decide) fl_X6_corners rfl (by show some (va_rf (S.2.2.1 a0 2)) = _; rw [e3]; rfl) dX6_gatherEdges_26 ?_
          obtain ⟨z4, h⟩ := ckK_el h
          refine c_getN (C := RX5) (T := TX5) (N := 7) (ref := "SegmentMap$Vertices") (ci := 6) (v := .int (D.1 p2 6)) hC hin_X5 hP z4.1 (cE_5 z4.2) rfl 6 (by decide) (nm := "count") (ds := "I") (List.mem_of_getElem? (i := 0) rfl) rfl rfl dX6_gatherEdges_29 ?_
          refine lv_icmp_ge (tgt := 83) hx hb dX6_gatherEdges_32 (by decide) (fun u5 => ?_) (fun u5 => ?_)
          · have h := ite_t u5 h
            refine lv_iinc (v := x1 + 1) (lv' := [(1, .int (x1 + 1)), (0, .ref a0), (2, .int x2), (3, .int x3)]) hx hb dX6_gatherEdges_83 hl (k := 1) rfl rfl (by decide) rfl (fun ls hl => ?_)
            refine lv_goto (tgt := 9) hx hb dX6_gatherEdges_86 (by decide) ?_
            exact ih9 _ _ _ D (x1 + 1) hP hS (lv_sub hl [1, 0] rfl) h
          · have h := ite_f u5 h
            refine lv_aload_n hx hb dX6_gatherEdges_35 rfl (lv_at hl 0 rfl) ?_
            obtain ⟨p6, e7, h⟩ := cal_el h
            refine c_get (C := RX6) (T := TX6) (N := 8) (ref := "SegmentMap") (ci := 7) (v := .ref p6) hC hin_X6 hP z1.1 (cE_6 z1.2) rfl 0 (by decide) fl_X6_lines rfl (by show some (va_rf (S.2.2.1 a0 0)) = _; rw [e7]; rfl) dX6_gatherEdges_36 ?_
            refine lv_iload_n hx hb dX6_gatherEdges_39 rfl (lv_at hl 1 rfl) ?_
            obtain ⟨z8, h⟩ := ckK_el h
            obtain ⟨t10, e9, h⟩ := cal_el h
            refine c_VA (As := [.int x1]) (rest := []) hC hP hS z8.1 (cE_7 z8.2) (C := RJx4a65c) (T := TJx4a65c) (N := 3) rfl (m_Jx4a65c_get_915e3 l G F S D p6 x1 t10 e9) (cwV 1 hts (gWC wc_26 wc_27 wc_28 wc_7 wc_16) rfl rfl rfl (by decide +kernel) ⟨Nat.le_of_ble_eq_true rfl, Nat.le_of_ble_eq_true rfl⟩) rfl hl.1 rfl (Nat.le_of_ble_eq_true rfl) dX6_gatherEdges_40 (fun H locs hP hS => ?_)
            obtain ⟨z11, h⟩ := ckK_el h
            refine c_cast (C := RX4) (T := TX4) (N := 6) (ci := 5) hC hP z11.1 (cE_4 z11.2) rfl cl_X4 dX6_gatherEdges_43 ?_
            refine lv_aload_n hx hb dX6_gatherEdges_46 rfl (lv_at hl 0 rfl) ?_
            obtain ⟨p12, e13, h⟩ := cal_el h
            refine c_get (C := RX6) (T := TX6) (N := 8) (ref := "SegmentMap") (ci := 7) (v := .ref p12) hC hin_X6 hP z1.1 (cE_6 z1.2) rfl 2 (by decide) fl_X6_corners rfl (by show some (va_rf (S.2.2.1 a0 2)) = _; rw [e13]; rfl) dX6_gatherEdges_47 ?_
            refine lv_iload_n hx hb dX6_gatherEdges_50 rfl (lv_at hl 3 rfl) ?_
            obtain ⟨z14, h⟩ := ckK_el h
            obtain ⟨t16, e15, h⟩ := cal_el h
            refine c_VA (As := [.int x3]) (rest := [.ref t10]) hC hP hS z14.1 (cE_5 z14.2) (C := RX5) (T := TX5) (N := 7) rfl (m_X5_at l G F S D p12 x3 t16 e15) (cwV 1 hts (gWC wc_89 wc_90 wc_91 wc_92 wc_82) rfl rfl rfl (by decide +kernel) ⟨Nat.le_of_ble_eq_true rfl, Nat.le_of_ble_eq_true rfl⟩) rfl hl.1 rfl (Nat.le_of_ble_eq_true rfl) dX6_gatherEdges_51 (fun H locs hP hS => ?_)
            obtain ⟨t18, e17, h⟩ := cal_el h
            refine c_VI (As := [.ref t16]) (rest := []) hC hP hS z11.1 (cE_4 z11.2) (C := RX4) (T := TX4) (N := 6) rfl (m_X4_holds l G F S D t10 t16 t18 e17) (cwV 1 hts (gWC wc_176 wc_177 wc_178 wc_48 wc_141) rfl rfl rfl (by decide +kernel) ⟨Nat.le_of_ble_eq_true rfl, Nat.le_of_ble_eq_true rfl⟩) rfl hl.1 rfl (Nat.le_of_ble_eq_true rfl) dX6_gatherEdges_54 (fun H locs hP hS => ?_)
            refine lv_if_eq (tgt := 77) hx hb dX6_gatherEdges_57 (by decide) (fun u19 => ?_) (fun u19 => ?_)
            · have h := ite_t u19 h
              exact b77 _ _ _ D x1 x2 x3 hP hS (lv_sub hl [0, 1, 2, 3] rfl) h
            · have h := ite_f u19 h
              refine lv_iload_n hx hb dX6_gatherEdges_60 rfl (lv_at hl 2 rfl) ?_
              refine lv_iconst (v := (-1)) hx hb dX6_gatherEdges_61 (by decide) ?_
              refine lv_icmp_eq (tgt := 75) hx hb dX6_gatherEdges_62 (by decide) (fun u20 => ?_) (fun u20 => ?_)
              · have h := ite_t u20 h
                refine lv_iload_n hx hb dX6_gatherEdges_75 rfl (lv_at hl 3 rfl) ?_
                refine lv_istore_n (lv' := [(2, .int x3), (0, .ref a0), (1, .int x1), (3, .int x3)]) hx hb dX6_gatherEdges_76 rfl hl (by decide) rfl (fun ls hl => ?_)
                exact b77 _ _ _ D x1 x3 x3 hP hS (lv_sub hl [1, 2, 0, 3] rfl) h
              · have h := ite_f u20 h
                refine lv_aload_n hx hb dX6_gatherEdges_65 rfl (lv_at hl 0 rfl) ?_
                obtain ⟨p21, e22, h⟩ := cal_el h
                refine c_get (C := RX6) (T := TX6) (N := 8) (ref := "SegmentMap") (ci := 7) (v := .ref p21) hC hin_X6 hP z1.1 (cE_6 z1.2) rfl 3 (by decide) fl_X6_pieces rfl (by show some (va_rf (S.2.2.1 a0 3)) = _; rw [e22]; rfl) dX6_gatherEdges_66 ?_
                refine lv_iload_n hx hb dX6_gatherEdges_69 rfl (lv_at hl 1 rfl) ?_
                refine lv_iload_n hx hb dX6_gatherEdges_70 rfl (lv_at hl 2 rfl) ?_
                refine lv_iload_n hx hb dX6_gatherEdges_71 rfl (lv_at hl 3 rfl) ?_
                obtain ⟨z23, h⟩ := ckK_el h
                obtain ⟨D25, e24, h⟩ := cal_el h
                refine c_VV (As := [.int x1, .int x2, .int x3]) (rest := []) hC hP hS z23.1 (cE_0 z23.2) (C := RX0) (T := TX0) (N := 6) rfl (m_X0_append l G F S D D25 p21 x1 x2 x3 e24) (cwV 3 hts (gWC wc_254 wc_255 wc_256 wc_253 wc_241) rfl rfl rfl (by decide +kernel) ⟨Nat.le_of_ble_eq_true rfl, Nat.le_of_ble_eq_true rfl⟩) rfl hl.1 rfl (Nat.le_of_ble_eq_true rfl) dX6_gatherEdges_72 (fun H locs hP hS => ?_)
                refine lv_iload_n hx hb dX6_gatherEdges_75 rfl (lv_at hl 3 rfl) ?_
                refine lv_istore_n (lv' := [(2, .int x3), (0, .ref a0), (1, .int x1), (3, .int x3)]) hx hb dX6_gatherEdges_76 rfl hl (by decide) rfl (fun ls hl => ?_)
                exact b77 _ _ _ D25 x1 x3 x3 hP hS (lv_sub hl [1, 2, 0, 3] rfl) h
      intro H locs ls D x1 hP hS hl h
      rw [f_X6_gatherEdges_L9] at h
      refine lv_iload_n hx hb dX6_gatherEdges_9 rfl (lv_at hl 1 rfl) ?_
      refine lv_aload_n hx hb dX6_gatherEdges_10 rfl (lv_at hl 0 rfl) ?_
      obtain ⟨z1, h⟩ := ckK_el h
      obtain ⟨p2, e3, h⟩ := cal_el h
      refine c_get (C := RX6) (T := TX6) (N := 8) (ref := "SegmentMap") (ci := 7) (v := .ref p2) hC hin_X6 hP z1.1 (cE_6 z1.2) rfl 0 (by decide) fl_X6_lines rfl (by show some (va_rf (S.2.2.1 a0 0)) = _; rw [e3]; rfl) dX6_gatherEdges_11 ?_
      obtain ⟨z4, h⟩ := ckK_el h
      obtain ⟨t6, e5, h⟩ := cal_el h
      refine c_VI (As := []) (rest := [.int x1]) hC hP hS z4.1 (cE_7 z4.2) (C := RJx4a65c) (T := TJx4a65c) (N := 3) rfl (m_Jx4a65c_size_8abf5 l G F S D p2 t6 e5) (cwV 0 hts (gWC wc_4 wc_5 wc_6 wc_7 wc_0) rfl rfl rfl (by decide +kernel) ⟨Nat.le_of_ble_eq_true rfl, Nat.le_of_ble_eq_true rfl⟩) rfl hl.1 rfl (Nat.le_of_ble_eq_true rfl) dX6_gatherEdges_14 (fun H locs hP hS => ?_)
      refine lv_icmp_ge (tgt := 89) hx hb dX6_gatherEdges_17 (by decide) (fun u7 => ?_) (fun u7 => ?_)
      · have h := ite_t u7 h
        cases h
        exact c_vret hC hP hS dX6_gatherEdges_89
      · have h := ite_f u7 h
        refine lv_iconst (v := (-1)) hx hb dX6_gatherEdges_20 (by decide) ?_
        refine lv_istore_n (lv' := [(2, .int ((-1))), (0, .ref a0), (1, .int x1)]) hx hb dX6_gatherEdges_21 rfl hl (by decide) rfl (fun ls hl => ?_)
        refine lv_iconst (v := 0) hx hb dX6_gatherEdges_22 (by decide) ?_
        refine lv_istore_n (lv' := [(3, .int 0), (2, .int ((-1))), (0, .ref a0), (1, .int x1)]) hx hb dX6_gatherEdges_23 rfl hl (by decide) rfl (fun ls hl => ?_)
        exact L24 F _ _ _ D x1 ((-1)) 0 hP hS (lv_sub hl [2, 3, 1, 0] rfl) h
  refine m_entry (Nat.le_of_ble_eq_true rfl) (fun ls hl => ?_)
  have hl : lv_has ls 4 [(0, .ref a0)] := hl
  unfold f_X6_gatherEdges at h
  refine lv_aload_n hx hb dX6_gatherEdges_0 rfl (lv_at hl 0 rfl) ?_
  obtain ⟨z1, h⟩ := ckK_el h
  obtain ⟨p2, e3, h⟩ := cal_el h
  refine c_get (C := RX6) (T := TX6) (N := 8) (ref := "SegmentMap") (ci := 7) (v := .ref p2) hC hin_X6 hP z1.1 (cE_6 z1.2) rfl 3 (by decide) fl_X6_pieces rfl (by show some (va_rf (S.2.2.1 a0 3)) = _; rw [e3]; rfl) dX6_gatherEdges_1 ?_
  obtain ⟨z4, h⟩ := ckK_el h
  obtain ⟨D6, e5, h⟩ := cal_el h
  refine c_VV (As := []) (rest := []) hC hP hS z4.1 (cE_0 z4.2) (C := RX0) (T := TX0) (N := 6) rfl (m_X0_clear l G F S D D6 p2 e5) (cwV 0 hts (gWC wc_250 wc_251 wc_252 wc_253 wc_238) rfl rfl rfl (by decide +kernel) ⟨Nat.le_of_ble_eq_true rfl, Nat.le_of_ble_eq_true rfl⟩) rfl hl.1 rfl (Nat.le_of_ble_eq_true rfl) dX6_gatherEdges_4 (fun H locs hP hS => ?_)
  refine lv_iconst (v := 0) hx hb dX6_gatherEdges_7 (by decide) ?_
  refine lv_istore_n (lv' := [(1, .int 0), (0, .ref a0)]) hx hb dX6_gatherEdges_8 rfl hl (by decide) rfl (fun ls hl => ?_)
  exact L9 F _ _ _ D6 0 hP hS (lv_sub hl [1, 0] rfl) h

theorem dX6_sortBySlope_0 : decode cX6_sortBySlope 0 = .ok (.iconst 0, 1) := by decide +kernel
theorem dX6_sortBySlope_1 : decode cX6_sortBySlope 1 = .ok (.istore_n 1, 1) := by decide +kernel
theorem dX6_sortBySlope_2 : decode cX6_sortBySlope 2 = .ok (.iload_n 1, 1) := by decide +kernel
theorem dX6_sortBySlope_3 : decode cX6_sortBySlope 3 = .ok (.aload_n 0, 1) := by decide +kernel
theorem dX6_sortBySlope_4 : decode cX6_sortBySlope 4 = .ok (.getfield 12, 3) := by decide +kernel
theorem dX6_sortBySlope_7 : decode cX6_sortBySlope 7 = .ok (.invokevirtual 75, 3) := by decide +kernel
theorem dX6_sortBySlope_10 : decode cX6_sortBySlope 10 = .ok (.if_icmp .ge 79, 3) := by decide +kernel
theorem dX6_sortBySlope_13 : decode cX6_sortBySlope 13 = .ok (.iload_n 1, 1) := by decide +kernel
theorem dX6_sortBySlope_14 : decode cX6_sortBySlope 14 = .ok (.istore_n 2, 1) := by decide +kernel
theorem dX6_sortBySlope_15 : decode cX6_sortBySlope 15 = .ok (.iload_n 2, 1) := by decide +kernel
theorem dX6_sortBySlope_16 : decode cX6_sortBySlope 16 = .ok (.ifCond .le 58, 3) := by decide +kernel
theorem dX6_sortBySlope_19 : decode cX6_sortBySlope 19 = .ok (.aload_n 0, 1) := by decide +kernel
theorem dX6_sortBySlope_20 : decode cX6_sortBySlope 20 = .ok (.aload_n 0, 1) := by decide +kernel
theorem dX6_sortBySlope_21 : decode cX6_sortBySlope 21 = .ok (.getfield 51, 3) := by decide +kernel
theorem dX6_sortBySlope_24 : decode cX6_sortBySlope 24 = .ok (.iload_n 2, 1) := by decide +kernel
theorem dX6_sortBySlope_25 : decode cX6_sortBySlope 25 = .ok (.iconst 1, 1) := by decide +kernel
theorem dX6_sortBySlope_26 : decode cX6_sortBySlope 26 = .ok (.isub, 1) := by decide +kernel
theorem dX6_sortBySlope_27 : decode cX6_sortBySlope 27 = .ok (.invokevirtual 140, 3) := by decide +kernel
theorem dX6_sortBySlope_30 : decode cX6_sortBySlope 30 = .ok (.invokevirtual 101, 3) := by decide +kernel
theorem dX6_sortBySlope_33 : decode cX6_sortBySlope 33 = .ok (.aload_n 0, 1) := by decide +kernel
theorem dX6_sortBySlope_34 : decode cX6_sortBySlope 34 = .ok (.getfield 12, 3) := by decide +kernel
theorem dX6_sortBySlope_37 : decode cX6_sortBySlope 37 = .ok (.iload_n 1, 1) := by decide +kernel
theorem dX6_sortBySlope_38 : decode cX6_sortBySlope 38 = .ok (.invokevirtual 172, 3) := by decide +kernel
theorem dX6_sortBySlope_41 : decode cX6_sortBySlope 41 = .ok (.checkcast 16, 3) := by decide +kernel
theorem dX6_sortBySlope_44 : decode cX6_sortBySlope 44 = .ok (.invokevirtual 203, 3) := by decide +kernel
theorem dX6_sortBySlope_47 : decode cX6_sortBySlope 47 = .ok (.ifCond .le 27, 3) := by decide +kernel
theorem dX6_sortBySlope_50 : decode cX6_sortBySlope 50 = .ok (.aload_n 0, 1) := by decide +kernel
theorem dX6_sortBySlope_51 : decode cX6_sortBySlope 51 = .ok (.getfield 51, 3) := by decide +kernel
theorem dX6_sortBySlope_54 : decode cX6_sortBySlope 54 = .ok (.iload_n 2, 1) := by decide +kernel
theorem dX6_sortBySlope_55 : decode cX6_sortBySlope 55 = .ok (.aload_n 0, 1) := by decide +kernel
theorem dX6_sortBySlope_56 : decode cX6_sortBySlope 56 = .ok (.getfield 51, 3) := by decide +kernel
theorem dX6_sortBySlope_59 : decode cX6_sortBySlope 59 = .ok (.iload_n 2, 1) := by decide +kernel
theorem dX6_sortBySlope_60 : decode cX6_sortBySlope 60 = .ok (.iconst 1, 1) := by decide +kernel
theorem dX6_sortBySlope_61 : decode cX6_sortBySlope 61 = .ok (.isub, 1) := by decide +kernel
theorem dX6_sortBySlope_62 : decode cX6_sortBySlope 62 = .ok (.invokevirtual 140, 3) := by decide +kernel
theorem dX6_sortBySlope_65 : decode cX6_sortBySlope 65 = .ok (.invokevirtual 273, 3) := by decide +kernel
theorem dX6_sortBySlope_68 : decode cX6_sortBySlope 68 = .ok (.iinc 2 (-1), 3) := by decide +kernel
theorem dX6_sortBySlope_71 : decode cX6_sortBySlope 71 = .ok (.goto (-56), 3) := by decide +kernel
theorem dX6_sortBySlope_74 : decode cX6_sortBySlope 74 = .ok (.aload_n 0, 1) := by decide +kernel
theorem dX6_sortBySlope_75 : decode cX6_sortBySlope 75 = .ok (.getfield 51, 3) := by decide +kernel
theorem dX6_sortBySlope_78 : decode cX6_sortBySlope 78 = .ok (.iload_n 2, 1) := by decide +kernel
theorem dX6_sortBySlope_79 : decode cX6_sortBySlope 79 = .ok (.iload_n 1, 1) := by decide +kernel
theorem dX6_sortBySlope_80 : decode cX6_sortBySlope 80 = .ok (.invokevirtual 273, 3) := by decide +kernel
theorem dX6_sortBySlope_83 : decode cX6_sortBySlope 83 = .ok (.iinc 1 1, 3) := by decide +kernel
theorem dX6_sortBySlope_86 : decode cX6_sortBySlope 86 = .ok (.goto (-84), 3) := by decide +kernel
theorem dX6_sortBySlope_89 : decode cX6_sortBySlope 89 = .ok (.return_, 1) := by decide +kernel
def f_X6_sortBySlope_b74 (F : Nat) (S : CS) (a0 : Nat) (k2 : CD → Int32 → Option CD) (D : CD) (x1 : Int32) (x2 : Int32) : Option CD := ckK S a0 6 <| cal (S.2.2.1 a0 5) fun p2 => ckK S p2 3 <| cal (f_X3_set F S D p2 x2 x1) fun D6 => k2 D6 (x1 + 1)
def f_X6_sortBySlope_L15 (F : Nat) (S : CS) (a0 : Nat) (k2 : CD → Int32 → Option CD) : Nat → CD → Int32 → Int32 → Option CD
  | 0, _, _, _ => none
  | n15 + 1, D, x1, x2 => (if x2 ≤ 0 then f_X6_sortBySlope_b74 F S a0 k2 D x1 x2 else ckK S a0 6 <| cal (S.2.2.1 a0 5) fun p3 => ckK S p3 3 <| cal (f_X3_get F S D p3 (x2 - 1)) fun t7 => cal (f_X6_lineAt F S D a0 t7) fun t9 => cal (S.2.2.1 a0 0) fun p10 => ckK S p10 7 <| cal (f_Jx4a65c_get_915e3 F S D p10 x1) fun t14 => ckK S t14 4 <| ckK S t9 4 <| cal (f_X4_compareSlopes F S D t9 t14) fun t18 => (if t18 ≤ 0 then f_X6_sortBySlope_b74 F S a0 k2 D x1 x2 else cal (S.2.2.1 a0 5) fun p20 => cal (S.2.2.1 a0 5) fun p22 => ckK S p22 3 <| cal (f_X3_get F S D p22 (x2 - 1)) fun t26 => ckK S p20 3 <| cal (f_X3_set F S D p20 x2 t26) fun D29 => (f_X6_sortBySlope_L15 F S a0 k2 n15) D29 x1 (x2 + (-1))))
def f_X6_sortBySlope_L2 (F : Nat) (S : CS) (a0 : Nat) : Nat → CD → Int32 → Option CD
  | 0, _, _ => none
  | n2 + 1, D, x1 => ckK S a0 6 <| cal (S.2.2.1 a0 0) fun p2 => ckK S p2 7 <| cal (f_Jx4a65c_size_8abf5 F S D p2) fun t6 => (if t6 ≤ x1 then some D else f_X6_sortBySlope_L15 F S a0 ((f_X6_sortBySlope_L2 F S a0 n2)) F D x1 x1)
def f_X6_sortBySlope (F : Nat) (S : CS) (D : CD) (a0 : Nat) : Option CD := f_X6_sortBySlope_L2 F S a0 F D 0
set_option maxRecDepth 100000 in
set_option maxHeartbeats 4000000 in
theorem m_X6_sortBySlope (l : Launch) (G : cG) (F : Nat) (S : CS) (D D2 : CD) (a0 : Nat) (h : f_X6_sortBySlope F S D a0 = some D2) : cMV l yX6_sortBySlope vX6_sortBySlope ({ frames := 4, cells := 0, slots := 0, locals := 85 }) G S [.ref a0] D D2 := by
  refine cBodyV (cc := cX6_sortBySlope) (maxL := 3) (ret := none) (own := RX6) (by decide) rfl rfl ?_
  intro sz p e s m below meth c hC hP
  have hC0 := hC
  obtain ⟨hx, hb, -, hts, hown, -, hml, -, -, -⟩ := hC0
  have hS : va_S (cA G S sz) s.heap s.heap [] := va_S.rf
  have hin_X6 : ∀ w ∈ wsX60, w ∈ vX6_sortBySlope := fun w h => List.mem_cons_of_mem _ (hWC6 w h)
  have fl_X6_lines := hts _ (List.mem_cons_of_mem _ wc_3)
  have fl_X6_bySlope := hts _ (List.mem_cons_of_mem _ wc_258)
  have cl_X4 := hts _ (List.mem_cons_of_mem _ wc_24)
  have L2 : ∀ (n2 : Nat) (H : Heap) (locs : List Loc) (ls : Array Slot) (D : CD) (x1 : Int32), va_P G.1 vwCl (cW G S D) H → va_S (cA G S sz) s.heap H locs → lv_has ls 3 [(0, .ref a0), (1, .int x1)] → f_X6_sortBySlope_L2 F S a0 n2 D x1 = some D2 → W p l e (headSpec vX6_sortBySlope ({ frames := 4, cells := 0, slots := 0, locals := 85 })).room s m ([.ref a0] : List Value).toArray below meth c H locs 0 0 (cQV below G S D2 sz ([.ref a0] : List Value).toArray s) (F0 m 2 ls []) := by
    intro n2
    induction n2 with
    | zero =>
      intro H locs ls D x1 hP hS hl h
      rw [f_X6_sortBySlope_L2] at h; cases h
    | succ n2 ih2 =>
      have b74 : ∀ (H : Heap) (locs : List Loc) (ls : Array Slot) (D : CD) (x1 : Int32) (x2 : Int32), va_P G.1 vwCl (cW G S D) H → va_S (cA G S sz) s.heap H locs → lv_has ls 3 [(0, .ref a0), (1, .int x1), (2, .int x2)] → f_X6_sortBySlope_b74 F S a0 ((f_X6_sortBySlope_L2 F S a0 n2)) D x1 x2 = some D2 → W p l e (headSpec vX6_sortBySlope ({ frames := 4, cells := 0, slots := 0, locals := 85 })).room s m ([.ref a0] : List Value).toArray below meth c H locs 0 0 (cQV below G S D2 sz ([.ref a0] : List Value).toArray s) (F0 m 74 ls []) := by
        intro H locs ls D x1 x2 hP hS hl h
        unfold f_X6_sortBySlope_b74 at h
        refine lv_aload_n hx hb dX6_sortBySlope_74 rfl (lv_at hl 0 rfl) ?_
        obtain ⟨z1, h⟩ := ckK_el h
        obtain ⟨p2, e3, h⟩ := cal_el h
        refine c_get (C := RX6) (T := TX6) (N := 8) (ref := "SegmentMap") (ci := 7) (v := .ref p2) hC hin_X6 hP z1.1 (cE_6 z1.2) rfl 5 (by decide) fl_X6_bySlope rfl (by show some (va_rf (S.2.2.1 a0 5)) = _; rw [e3]; rfl) dX6_sortBySlope_75 ?_
        refine lv_iload_n hx hb dX6_sortBySlope_78 rfl (lv_at hl 2 rfl) ?_
        refine lv_iload_n hx hb dX6_sortBySlope_79 rfl (lv_at hl 1 rfl) ?_
        obtain ⟨z4, h⟩ := ckK_el h
        obtain ⟨D6, e5, h⟩ := cal_el h
        refine c_VV (As := [.int x2, .int x1]) (rest := []) hC hP hS z4.1 (cE_3 z4.2) (C := RX3) (T := TX3) (N := 1) rfl (m_X3_set l G F S D D6 p2 x2 x1 e5) (cwV 2 hts (gWC wc_259 wc_247 wc_248 wc_102 wc_240) rfl rfl rfl (by decide +kernel) ⟨Nat.le_of_ble_eq_true rfl, Nat.le_of_ble_eq_true rfl⟩) rfl hl.1 rfl (Nat.le_of_ble_eq_true rfl) dX6_sortBySlope_80 (fun H locs hP hS => ?_)
        refine lv_iinc (v := x1 + 1) (lv' := [(1, .int (x1 + 1)), (0, .ref a0), (2, .int x2)]) hx hb dX6_sortBySlope_83 hl (k := 1) rfl rfl (by decide) rfl (fun ls hl => ?_)
        refine lv_goto (tgt := 2) hx hb dX6_sortBySlope_86 (by decide) ?_
        exact ih2 _ _ _ D6 (x1 + 1) hP hS (lv_sub hl [1, 0] rfl) h
      have L15 : ∀ (n15 : Nat) (H : Heap) (locs : List Loc) (ls : Array Slot) (D : CD) (x1 : Int32) (x2 : Int32), va_P G.1 vwCl (cW G S D) H → va_S (cA G S sz) s.heap H locs → lv_has ls 3 [(0, .ref a0), (1, .int x1), (2, .int x2)] → f_X6_sortBySlope_L15 F S a0 ((f_X6_sortBySlope_L2 F S a0 n2)) n15 D x1 x2 = some D2 → W p l e (headSpec vX6_sortBySlope ({ frames := 4, cells := 0, slots := 0, locals := 85 })).room s m ([.ref a0] : List Value).toArray below meth c H locs 0 0 (cQV below G S D2 sz ([.ref a0] : List Value).toArray s) (F0 m 15 ls []) := by
        intro n15
        induction n15 with
        | zero =>
          intro H locs ls D x1 x2 hP hS hl h
          rw [f_X6_sortBySlope_L15] at h; cases h
        | succ n15 ih15 =>
          intro H locs ls D x1 x2 hP hS hl h
          rw [f_X6_sortBySlope_L15] at h
          refine lv_iload_n hx hb dX6_sortBySlope_15 rfl (lv_at hl 2 rfl) ?_
          refine lv_if_le (tgt := 74) hx hb dX6_sortBySlope_16 (by decide) (fun u1 => ?_) (fun u1 => ?_)
          · have h := ite_t u1 h
            exact b74 _ _ _ D x1 x2 hP hS (lv_sub hl [0, 1, 2] rfl) h
          · have h := ite_f u1 h
            refine lv_aload_n hx hb dX6_sortBySlope_19 rfl (lv_at hl 0 rfl) ?_
            refine lv_aload_n hx hb dX6_sortBySlope_20 rfl (lv_at hl 0 rfl) ?_
            obtain ⟨z2, h⟩ := ckK_el h
            obtain ⟨p3, e4, h⟩ := cal_el h
            refine c_get (C := RX6) (T := TX6) (N := 8) (ref := "SegmentMap") (ci := 7) (v := .ref p3) hC hin_X6 hP z2.1 (cE_6 z2.2) rfl 5 (by decide) fl_X6_bySlope rfl (by show some (va_rf (S.2.2.1 a0 5)) = _; rw [e4]; rfl) dX6_sortBySlope_21 ?_
            refine lv_iload_n hx hb dX6_sortBySlope_24 rfl (lv_at hl 2 rfl) ?_
            refine lv_iconst (v := 1) hx hb dX6_sortBySlope_25 (by decide) ?_
            refine lv_isub hx hb dX6_sortBySlope_26 ?_
            obtain ⟨z5, h⟩ := ckK_el h
            obtain ⟨t7, e6, h⟩ := cal_el h
            refine c_VI (As := [.int (x2 - 1)]) (rest := [.ref a0]) hC hP hS z5.1 (cE_3 z5.2) (C := RX3) (T := TX3) (N := 1) rfl (m_X3_get l G F S D p3 (x2 - 1) t7 e6) (cwV 1 hts (gWC wc_99 wc_100 wc_101 wc_102 wc_96) rfl rfl rfl (by decide +kernel) ⟨Nat.le_of_ble_eq_true rfl, Nat.le_of_ble_eq_true rfl⟩) rfl hl.1 rfl (Nat.le_of_ble_eq_true rfl) dX6_sortBySlope_27 (fun H locs hP hS => ?_)
            obtain ⟨t9, e8, h⟩ := cal_el h
            refine c_VA (As := [.int t7]) (rest := []) hC hP hS z2.1 (cE_6 z2.2) (C := RX6) (T := TX6) (N := 8) rfl (m_X6_lineAt l G F S D a0 t7 t9 e8) (cwV 1 hts (gWC wc_67 wc_68 wc_69 wc_66 wc_23) rfl rfl rfl (by decide +kernel) ⟨Nat.le_of_ble_eq_true rfl, Nat.le_of_ble_eq_true rfl⟩) rfl hl.1 rfl (Nat.le_of_ble_eq_true rfl) dX6_sortBySlope_30 (fun H locs hP hS => ?_)
            refine lv_aload_n hx hb dX6_sortBySlope_33 rfl (lv_at hl 0 rfl) ?_
            obtain ⟨p10, e11, h⟩ := cal_el h
            refine c_get (C := RX6) (T := TX6) (N := 8) (ref := "SegmentMap") (ci := 7) (v := .ref p10) hC hin_X6 hP z2.1 (cE_6 z2.2) rfl 0 (by decide) fl_X6_lines rfl (by show some (va_rf (S.2.2.1 a0 0)) = _; rw [e11]; rfl) dX6_sortBySlope_34 ?_
            refine lv_iload_n hx hb dX6_sortBySlope_37 rfl (lv_at hl 1 rfl) ?_
            obtain ⟨z12, h⟩ := ckK_el h
            obtain ⟨t14, e13, h⟩ := cal_el h
            refine c_VA (As := [.int x1]) (rest := [.ref t9]) hC hP hS z12.1 (cE_7 z12.2) (C := RJx4a65c) (T := TJx4a65c) (N := 3) rfl (m_Jx4a65c_get_915e3 l G F S D p10 x1 t14 e13) (cwV 1 hts (gWC wc_26 wc_27 wc_28 wc_7 wc_16) rfl rfl rfl (by decide +kernel) ⟨Nat.le_of_ble_eq_true rfl, Nat.le_of_ble_eq_true rfl⟩) rfl hl.1 rfl (Nat.le_of_ble_eq_true rfl) dX6_sortBySlope_38 (fun H locs hP hS => ?_)
            obtain ⟨z15, h⟩ := ckK_el h
            refine c_cast (C := RX4) (T := TX4) (N := 6) (ci := 5) hC hP z15.1 (cE_4 z15.2) rfl cl_X4 dX6_sortBySlope_41 ?_
            obtain ⟨z16, h⟩ := ckK_el h
            obtain ⟨t18, e17, h⟩ := cal_el h
            refine c_VI (As := [.ref t14]) (rest := []) hC hP hS z16.1 (cE_4 z16.2) (C := RX4) (T := TX4) (N := 6) rfl (m_X4_compareSlopes l G F S D t9 t14 t18 e17) (cwV 1 hts (gWC wc_158 wc_159 wc_160 wc_48 wc_153) rfl rfl rfl (by decide +kernel) ⟨Nat.le_of_ble_eq_true rfl, Nat.le_of_ble_eq_true rfl⟩) rfl hl.1 rfl (Nat.le_of_ble_eq_true rfl) dX6_sortBySlope_44 (fun H locs hP hS => ?_)
            refine lv_if_le (tgt := 74) hx hb dX6_sortBySlope_47 (by decide) (fun u19 => ?_) (fun u19 => ?_)
            · have h := ite_t u19 h
              exact b74 _ _ _ D x1 x2 hP hS (lv_sub hl [0, 1, 2] rfl) h
            · have h := ite_f u19 h
              refine lv_aload_n hx hb dX6_sortBySlope_50 rfl (lv_at hl 0 rfl) ?_
              obtain ⟨p20, e21, h⟩ := cal_el h
              refine c_get (C := RX6) (T := TX6) (N := 8) (ref := "SegmentMap") (ci := 7) (v := .ref p20) hC hin_X6 hP z2.1 (cE_6 z2.2) rfl 5 (by decide) fl_X6_bySlope rfl (by show some (va_rf (S.2.2.1 a0 5)) = _; rw [e21]; rfl) dX6_sortBySlope_51 ?_
              refine lv_iload_n hx hb dX6_sortBySlope_54 rfl (lv_at hl 2 rfl) ?_
              refine lv_aload_n hx hb dX6_sortBySlope_55 rfl (lv_at hl 0 rfl) ?_
              obtain ⟨p22, e23, h⟩ := cal_el h
              refine c_get (C := RX6) (T := TX6) (N := 8) (ref := "SegmentMap") (ci := 7) (v := .ref p22) hC hin_X6 hP z2.1 (cE_6 z2.2) rfl 5 (by decide) fl_X6_bySlope rfl (by show some (va_rf (S.2.2.1 a0 5)) = _; rw [e23]; rfl) dX6_sortBySlope_56 ?_
              refine lv_iload_n hx hb dX6_sortBySlope_59 rfl (lv_at hl 2 rfl) ?_
              refine lv_iconst (v := 1) hx hb dX6_sortBySlope_60 (by decide) ?_
              refine lv_isub hx hb dX6_sortBySlope_61 ?_
              obtain ⟨z24, h⟩ := ckK_el h
              obtain ⟨t26, e25, h⟩ := cal_el h
              refine c_VI (As := [.int (x2 - 1)]) (rest := [.int x2, .ref p20]) hC hP hS z24.1 (cE_3 z24.2) (C := RX3) (T := TX3) (N := 1) rfl (m_X3_get l G F S D p22 (x2 - 1) t26 e25) (cwV 1 hts (gWC wc_99 wc_100 wc_101 wc_102 wc_96) rfl rfl rfl (by decide +kernel) ⟨Nat.le_of_ble_eq_true rfl, Nat.le_of_ble_eq_true rfl⟩) rfl hl.1 rfl (Nat.le_of_ble_eq_true rfl) dX6_sortBySlope_62 (fun H locs hP hS => ?_)
              obtain ⟨z27, h⟩ := ckK_el h
              obtain ⟨D29, e28, h⟩ := cal_el h
              refine c_VV (As := [.int x2, .int t26]) (rest := []) hC hP hS z27.1 (cE_3 z27.2) (C := RX3) (T := TX3) (N := 1) rfl (m_X3_set l G F S D D29 p20 x2 t26 e28) (cwV 2 hts (gWC wc_259 wc_247 wc_248 wc_102 wc_240) rfl rfl rfl (by decide +kernel) ⟨Nat.le_of_ble_eq_true rfl, Nat.le_of_ble_eq_true rfl⟩) rfl hl.1 rfl (Nat.le_of_ble_eq_true rfl) dX6_sortBySlope_65 (fun H locs hP hS => ?_)
              refine lv_iinc (v := x2 + (-1)) (lv' := [(2, .int (x2 + (-1))), (0, .ref a0), (1, .int x1)]) hx hb dX6_sortBySlope_68 hl (k := 2) rfl rfl (by decide) rfl (fun ls hl => ?_)
              refine lv_goto (tgt := 15) hx hb dX6_sortBySlope_71 (by decide) ?_
              exact ih15 _ _ _ D29 x1 (x2 + (-1)) hP hS (lv_sub hl [1, 2, 0] rfl) h
      intro H locs ls D x1 hP hS hl h
      rw [f_X6_sortBySlope_L2] at h
      refine lv_iload_n hx hb dX6_sortBySlope_2 rfl (lv_at hl 1 rfl) ?_
      refine lv_aload_n hx hb dX6_sortBySlope_3 rfl (lv_at hl 0 rfl) ?_
      obtain ⟨z1, h⟩ := ckK_el h
      obtain ⟨p2, e3, h⟩ := cal_el h
      refine c_get (C := RX6) (T := TX6) (N := 8) (ref := "SegmentMap") (ci := 7) (v := .ref p2) hC hin_X6 hP z1.1 (cE_6 z1.2) rfl 0 (by decide) fl_X6_lines rfl (by show some (va_rf (S.2.2.1 a0 0)) = _; rw [e3]; rfl) dX6_sortBySlope_4 ?_
      obtain ⟨z4, h⟩ := ckK_el h
      obtain ⟨t6, e5, h⟩ := cal_el h
      refine c_VI (As := []) (rest := [.int x1]) hC hP hS z4.1 (cE_7 z4.2) (C := RJx4a65c) (T := TJx4a65c) (N := 3) rfl (m_Jx4a65c_size_8abf5 l G F S D p2 t6 e5) (cwV 0 hts (gWC wc_4 wc_5 wc_6 wc_7 wc_0) rfl rfl rfl (by decide +kernel) ⟨Nat.le_of_ble_eq_true rfl, Nat.le_of_ble_eq_true rfl⟩) rfl hl.1 rfl (Nat.le_of_ble_eq_true rfl) dX6_sortBySlope_7 (fun H locs hP hS => ?_)
      refine lv_icmp_ge (tgt := 89) hx hb dX6_sortBySlope_10 (by decide) (fun u7 => ?_) (fun u7 => ?_)
      · have h := ite_t u7 h
        cases h
        exact c_vret hC hP hS dX6_sortBySlope_89
      · have h := ite_f u7 h
        refine lv_iload_n hx hb dX6_sortBySlope_13 rfl (lv_at hl 1 rfl) ?_
        refine lv_istore_n (lv' := [(2, .int x1), (0, .ref a0), (1, .int x1)]) hx hb dX6_sortBySlope_14 rfl hl (by decide) rfl (fun ls hl => ?_)
        exact L15 F _ _ _ D x1 x1 hP hS (lv_sub hl [1, 2, 0] rfl) h
  refine m_entry (Nat.le_of_ble_eq_true rfl) (fun ls hl => ?_)
  have hl : lv_has ls 3 [(0, .ref a0)] := hl
  unfold f_X6_sortBySlope at h
  refine lv_iconst (v := 0) hx hb dX6_sortBySlope_0 (by decide) ?_
  refine lv_istore_n (lv' := [(1, .int 0), (0, .ref a0)]) hx hb dX6_sortBySlope_1 rfl hl (by decide) rfl (fun ls hl => ?_)
  exact L2 F _ _ _ D 0 hP hS (lv_sub hl [1, 0] rfl) h

theorem dX5_resetSides_0 : decode cX5_resetSides 0 = .ok (.iconst 0, 1) := by decide +kernel
theorem dX5_resetSides_1 : decode cX5_resetSides 1 = .ok (.istore_n 1, 1) := by decide +kernel
theorem dX5_resetSides_2 : decode cX5_resetSides 2 = .ok (.iload_n 1, 1) := by decide +kernel
theorem dX5_resetSides_3 : decode cX5_resetSides 3 = .ok (.aload_n 0, 1) := by decide +kernel
theorem dX5_resetSides_4 : decode cX5_resetSides 4 = .ok (.getfield 40, 3) := by decide +kernel
theorem dX5_resetSides_7 : decode cX5_resetSides 7 = .ok (.if_icmp .ge 45, 3) := by decide +kernel
theorem dX5_resetSides_10 : decode cX5_resetSides 10 = .ok (.aload_n 0, 1) := by decide +kernel
theorem dX5_resetSides_11 : decode cX5_resetSides 11 = .ok (.getfield 27, 3) := by decide +kernel
theorem dX5_resetSides_14 : decode cX5_resetSides 14 = .ok (.iload_n 1, 1) := by decide +kernel
theorem dX5_resetSides_15 : decode cX5_resetSides 15 = .ok (.iconst 0, 1) := by decide +kernel
theorem dX5_resetSides_16 : decode cX5_resetSides 16 = .ok (.invokevirtual 60, 3) := by decide +kernel
theorem dX5_resetSides_19 : decode cX5_resetSides 19 = .ok (.aload_n 0, 1) := by decide +kernel
theorem dX5_resetSides_20 : decode cX5_resetSides 20 = .ok (.getfield 31, 3) := by decide +kernel
theorem dX5_resetSides_23 : decode cX5_resetSides 23 = .ok (.iload_n 1, 1) := by decide +kernel
theorem dX5_resetSides_24 : decode cX5_resetSides 24 = .ok (.iconst (-1), 1) := by decide +kernel
theorem dX5_resetSides_25 : decode cX5_resetSides 25 = .ok (.invokevirtual 60, 3) := by decide +kernel
theorem dX5_resetSides_28 : decode cX5_resetSides 28 = .ok (.aload_n 0, 1) := by decide +kernel
theorem dX5_resetSides_29 : decode cX5_resetSides 29 = .ok (.getfield 34, 3) := by decide +kernel
theorem dX5_resetSides_32 : decode cX5_resetSides 32 = .ok (.iload_n 1, 1) := by decide +kernel
theorem dX5_resetSides_33 : decode cX5_resetSides 33 = .ok (.iconst (-1), 1) := by decide +kernel
theorem dX5_resetSides_34 : decode cX5_resetSides 34 = .ok (.invokevirtual 60, 3) := by decide +kernel
theorem dX5_resetSides_37 : decode cX5_resetSides 37 = .ok (.aload_n 0, 1) := by decide +kernel
theorem dX5_resetSides_38 : decode cX5_resetSides 38 = .ok (.getfield 37, 3) := by decide +kernel
theorem dX5_resetSides_41 : decode cX5_resetSides 41 = .ok (.iload_n 1, 1) := by decide +kernel
theorem dX5_resetSides_42 : decode cX5_resetSides 42 = .ok (.iload_n 1, 1) := by decide +kernel
theorem dX5_resetSides_43 : decode cX5_resetSides 43 = .ok (.invokevirtual 60, 3) := by decide +kernel
theorem dX5_resetSides_46 : decode cX5_resetSides 46 = .ok (.iinc 1 1, 3) := by decide +kernel
theorem dX5_resetSides_49 : decode cX5_resetSides 49 = .ok (.goto (-47), 3) := by decide +kernel
theorem dX5_resetSides_52 : decode cX5_resetSides 52 = .ok (.return_, 1) := by decide +kernel
def f_X5_resetSides_L2 (F : Nat) (S : CS) (a0 : Nat) : Nat → CD → Int32 → Option CD
  | 0, _, _ => none
  | n2 + 1, D, x1 => ckK S a0 5 <| (if (D.1 a0 6) ≤ x1 then some D else cal (S.2.2.1 a0 2) fun p3 => ckK S p3 3 <| cal (f_X3_set F S D p3 x1 0) fun D7 => cal (S.2.2.1 a0 3) fun p8 => ckK S p8 3 <| cal (f_X3_set F S D7 p8 x1 ((-1))) fun D12 => cal (S.2.2.1 a0 4) fun p13 => ckK S p13 3 <| cal (f_X3_set F S D12 p13 x1 ((-1))) fun D17 => cal (S.2.2.1 a0 5) fun p18 => ckK S p18 3 <| cal (f_X3_set F S D17 p18 x1 x1) fun D22 => (f_X5_resetSides_L2 F S a0 n2) D22 (x1 + 1))
def f_X5_resetSides (F : Nat) (S : CS) (D : CD) (a0 : Nat) : Option CD := f_X5_resetSides_L2 F S a0 F D 0
set_option maxRecDepth 100000 in
set_option maxHeartbeats 4000000 in
theorem m_X5_resetSides (l : Launch) (G : cG) (F : Nat) (S : CS) (D D2 : CD) (a0 : Nat) (h : f_X5_resetSides F S D a0 = some D2) : cMV l yX5_resetSides vX5_resetSides ({ frames := 1, cells := 0, slots := 0, locals := 22 }) G S [.ref a0] D D2 := by
  refine cBodyV (cc := cX5_resetSides) (maxL := 2) (ret := none) (own := RX5) (by decide) rfl rfl ?_
  intro sz p e s m below meth c hC hP
  have hC0 := hC
  obtain ⟨hx, hb, -, hts, hown, -, hml, -, -, -⟩ := hC0
  have hS : va_S (cA G S sz) s.heap s.heap [] := va_S.rf
  have hin_X5 : ∀ w ∈ wsX50, w ∈ vX5_resetSides := fun w h => List.mem_cons_of_mem _ (hWC5 w h)
  have fl_X5_count := hts _ (List.mem_cons_of_mem _ wc_198)
  have fl_X5_outgoing := hts _ (List.mem_cons_of_mem _ wc_261)
  have fl_X5_lowest := hts _ (List.mem_cons_of_mem _ wc_262)
  have fl_X5_top := hts _ (List.mem_cons_of_mem _ wc_263)
  have fl_X5_root := hts _ (List.mem_cons_of_mem _ wc_264)
  have L2 : ∀ (n2 : Nat) (H : Heap) (locs : List Loc) (ls : Array Slot) (D : CD) (x1 : Int32), va_P G.1 vwCl (cW G S D) H → va_S (cA G S sz) s.heap H locs → lv_has ls 2 [(0, .ref a0), (1, .int x1)] → f_X5_resetSides_L2 F S a0 n2 D x1 = some D2 → W p l e (headSpec vX5_resetSides ({ frames := 1, cells := 0, slots := 0, locals := 22 })).room s m ([.ref a0] : List Value).toArray below meth c H locs 0 0 (cQV below G S D2 sz ([.ref a0] : List Value).toArray s) (F0 m 2 ls []) := by
    intro n2
    induction n2 with
    | zero =>
      intro H locs ls D x1 hP hS hl h
      rw [f_X5_resetSides_L2] at h; cases h
    | succ n2 ih2 =>
      intro H locs ls D x1 hP hS hl h
      rw [f_X5_resetSides_L2] at h
      refine lv_iload_n hx hb dX5_resetSides_2 rfl (lv_at hl 1 rfl) ?_
      refine lv_aload_n hx hb dX5_resetSides_3 rfl (lv_at hl 0 rfl) ?_
      obtain ⟨z1, h⟩ := ckK_el h
      refine c_get (C := RX5) (T := TX5) (N := 7) (ref := "SegmentMap$Vertices") (ci := 6) (v := .int (D.1 a0 6)) hC hin_X5 hP z1.1 (cE_5 z1.2) rfl 6 (by decide) fl_X5_count rfl rfl dX5_resetSides_4 ?_
      refine lv_icmp_ge (tgt := 52) hx hb dX5_resetSides_7 (by decide) (fun u2 => ?_) (fun u2 => ?_)
      · have h := ite_t u2 h
        cases h
        exact c_vret hC hP hS dX5_resetSides_52
      · have h := ite_f u2 h
        refine lv_aload_n hx hb dX5_resetSides_10 rfl (lv_at hl 0 rfl) ?_
        obtain ⟨p3, e4, h⟩ := cal_el h
        refine c_get (C := RX5) (T := TX5) (N := 7) (ref := "SegmentMap$Vertices") (ci := 6) (v := .ref p3) hC hin_X5 hP z1.1 (cE_5 z1.2) rfl 2 (by decide) fl_X5_outgoing rfl (by show some (va_rf (S.2.2.1 a0 2)) = _; rw [e4]; rfl) dX5_resetSides_11 ?_
        refine lv_iload_n hx hb dX5_resetSides_14 rfl (lv_at hl 1 rfl) ?_
        refine lv_iconst (v := 0) hx hb dX5_resetSides_15 (by decide) ?_
        obtain ⟨z5, h⟩ := ckK_el h
        obtain ⟨D7, e6, h⟩ := cal_el h
        refine c_VV (As := [.int x1, .int 0]) (rest := []) hC hP hS z5.1 (cE_3 z5.2) (C := RX3) (T := TX3) (N := 1) rfl (m_X3_set l G F S D D7 p3 x1 0 e6) (cwV 2 hts (gWC wc_265 wc_247 wc_248 wc_102 wc_240) rfl rfl rfl (by decide +kernel) ⟨Nat.le_of_ble_eq_true rfl, Nat.le_of_ble_eq_true rfl⟩) rfl hl.1 rfl (Nat.le_of_ble_eq_true rfl) dX5_resetSides_16 (fun H locs hP hS => ?_)
        refine lv_aload_n hx hb dX5_resetSides_19 rfl (lv_at hl 0 rfl) ?_
        obtain ⟨p8, e9, h⟩ := cal_el h
        refine c_get (C := RX5) (T := TX5) (N := 7) (ref := "SegmentMap$Vertices") (ci := 6) (v := .ref p8) hC hin_X5 hP z1.1 (cE_5 z1.2) rfl 3 (by decide) fl_X5_lowest rfl (by show some (va_rf (S.2.2.1 a0 3)) = _; rw [e9]; rfl) dX5_resetSides_20 ?_
        refine lv_iload_n hx hb dX5_resetSides_23 rfl (lv_at hl 1 rfl) ?_
        refine lv_iconst (v := (-1)) hx hb dX5_resetSides_24 (by decide) ?_
        obtain ⟨z10, h⟩ := ckK_el h
        obtain ⟨D12, e11, h⟩ := cal_el h
        refine c_VV (As := [.int x1, .int ((-1))]) (rest := []) hC hP hS z10.1 (cE_3 z10.2) (C := RX3) (T := TX3) (N := 1) rfl (m_X3_set l G F S D7 D12 p8 x1 ((-1)) e11) (cwV 2 hts (gWC wc_265 wc_247 wc_248 wc_102 wc_240) rfl rfl rfl (by decide +kernel) ⟨Nat.le_of_ble_eq_true rfl, Nat.le_of_ble_eq_true rfl⟩) rfl hl.1 rfl (Nat.le_of_ble_eq_true rfl) dX5_resetSides_25 (fun H locs hP hS => ?_)
        refine lv_aload_n hx hb dX5_resetSides_28 rfl (lv_at hl 0 rfl) ?_
        obtain ⟨p13, e14, h⟩ := cal_el h
        refine c_get (C := RX5) (T := TX5) (N := 7) (ref := "SegmentMap$Vertices") (ci := 6) (v := .ref p13) hC hin_X5 hP z1.1 (cE_5 z1.2) rfl 4 (by decide) fl_X5_top rfl (by show some (va_rf (S.2.2.1 a0 4)) = _; rw [e14]; rfl) dX5_resetSides_29 ?_
        refine lv_iload_n hx hb dX5_resetSides_32 rfl (lv_at hl 1 rfl) ?_
        refine lv_iconst (v := (-1)) hx hb dX5_resetSides_33 (by decide) ?_
        obtain ⟨z15, h⟩ := ckK_el h
        obtain ⟨D17, e16, h⟩ := cal_el h
        refine c_VV (As := [.int x1, .int ((-1))]) (rest := []) hC hP hS z15.1 (cE_3 z15.2) (C := RX3) (T := TX3) (N := 1) rfl (m_X3_set l G F S D12 D17 p13 x1 ((-1)) e16) (cwV 2 hts (gWC wc_265 wc_247 wc_248 wc_102 wc_240) rfl rfl rfl (by decide +kernel) ⟨Nat.le_of_ble_eq_true rfl, Nat.le_of_ble_eq_true rfl⟩) rfl hl.1 rfl (Nat.le_of_ble_eq_true rfl) dX5_resetSides_34 (fun H locs hP hS => ?_)
        refine lv_aload_n hx hb dX5_resetSides_37 rfl (lv_at hl 0 rfl) ?_
        obtain ⟨p18, e19, h⟩ := cal_el h
        refine c_get (C := RX5) (T := TX5) (N := 7) (ref := "SegmentMap$Vertices") (ci := 6) (v := .ref p18) hC hin_X5 hP z1.1 (cE_5 z1.2) rfl 5 (by decide) fl_X5_root rfl (by show some (va_rf (S.2.2.1 a0 5)) = _; rw [e19]; rfl) dX5_resetSides_38 ?_
        refine lv_iload_n hx hb dX5_resetSides_41 rfl (lv_at hl 1 rfl) ?_
        refine lv_iload_n hx hb dX5_resetSides_42 rfl (lv_at hl 1 rfl) ?_
        obtain ⟨z20, h⟩ := ckK_el h
        obtain ⟨D22, e21, h⟩ := cal_el h
        refine c_VV (As := [.int x1, .int x1]) (rest := []) hC hP hS z20.1 (cE_3 z20.2) (C := RX3) (T := TX3) (N := 1) rfl (m_X3_set l G F S D17 D22 p18 x1 x1 e21) (cwV 2 hts (gWC wc_265 wc_247 wc_248 wc_102 wc_240) rfl rfl rfl (by decide +kernel) ⟨Nat.le_of_ble_eq_true rfl, Nat.le_of_ble_eq_true rfl⟩) rfl hl.1 rfl (Nat.le_of_ble_eq_true rfl) dX5_resetSides_43 (fun H locs hP hS => ?_)
        refine lv_iinc (v := x1 + 1) (lv' := [(1, .int (x1 + 1)), (0, .ref a0)]) hx hb dX5_resetSides_46 hl (k := 1) rfl rfl (by decide) rfl (fun ls hl => ?_)
        refine lv_goto (tgt := 2) hx hb dX5_resetSides_49 (by decide) ?_
        exact ih2 _ _ _ D22 (x1 + 1) hP hS (lv_sub hl [1, 0] rfl) h
  refine m_entry (Nat.le_of_ble_eq_true rfl) (fun ls hl => ?_)
  have hl : lv_has ls 2 [(0, .ref a0)] := hl
  unfold f_X5_resetSides at h
  refine lv_iconst (v := 0) hx hb dX5_resetSides_0 (by decide) ?_
  refine lv_istore_n (lv' := [(1, .int 0), (0, .ref a0)]) hx hb dX5_resetSides_1 rfl hl (by decide) rfl (fun ls hl => ?_)
  exact L2 F _ _ _ D 0 hP hS (lv_sub hl [1, 0] rfl) h

theorem dX6_spreadSide_0 : decode cX6_spreadSide 0 = .ok (.aload_n 0, 1) := by decide +kernel
theorem dX6_spreadSide_1 : decode cX6_spreadSide 1 = .ok (.getfield 28, 3) := by decide +kernel
theorem dX6_spreadSide_4 : decode cX6_spreadSide 4 = .ok (.getfield 137, 3) := by decide +kernel
theorem dX6_spreadSide_7 : decode cX6_spreadSide 7 = .ok (.iload_n 1, 1) := by decide +kernel
theorem dX6_spreadSide_8 : decode cX6_spreadSide 8 = .ok (.invokevirtual 140, 3) := by decide +kernel
theorem dX6_spreadSide_11 : decode cX6_spreadSide 11 = .ok (.ifCond .ne 18, 3) := by decide +kernel
theorem dX6_spreadSide_14 : decode cX6_spreadSide 14 = .ok (.aload_n 0, 1) := by decide +kernel
theorem dX6_spreadSide_15 : decode cX6_spreadSide 15 = .ok (.getfield 28, 3) := by decide +kernel
theorem dX6_spreadSide_18 : decode cX6_spreadSide 18 = .ok (.getfield 287, 3) := by decide +kernel
theorem dX6_spreadSide_21 : decode cX6_spreadSide 21 = .ok (.iload_n 1, 1) := by decide +kernel
theorem dX6_spreadSide_22 : decode cX6_spreadSide 22 = .ok (.iload_n 2, 1) := by decide +kernel
theorem dX6_spreadSide_23 : decode cX6_spreadSide 23 = .ok (.invokevirtual 273, 3) := by decide +kernel
theorem dX6_spreadSide_26 : decode cX6_spreadSide 26 = .ok (.goto 25, 3) := by decide +kernel
theorem dX6_spreadSide_29 : decode cX6_spreadSide 29 = .ok (.aload_n 0, 1) := by decide +kernel
theorem dX6_spreadSide_30 : decode cX6_spreadSide 30 = .ok (.getfield 35, 3) := by decide +kernel
theorem dX6_spreadSide_33 : decode cX6_spreadSide 33 = .ok (.getfield 290, 3) := by decide +kernel
theorem dX6_spreadSide_36 : decode cX6_spreadSide 36 = .ok (.aload_n 0, 1) := by decide +kernel
theorem dX6_spreadSide_37 : decode cX6_spreadSide 37 = .ok (.getfield 28, 3) := by decide +kernel
theorem dX6_spreadSide_40 : decode cX6_spreadSide 40 = .ok (.getfield 293, 3) := by decide +kernel
theorem dX6_spreadSide_43 : decode cX6_spreadSide 43 = .ok (.iload_n 1, 1) := by decide +kernel
theorem dX6_spreadSide_44 : decode cX6_spreadSide 44 = .ok (.invokevirtual 140, 3) := by decide +kernel
theorem dX6_spreadSide_47 : decode cX6_spreadSide 47 = .ok (.iload_n 2, 1) := by decide +kernel
theorem dX6_spreadSide_48 : decode cX6_spreadSide 48 = .ok (.invokevirtual 273, 3) := by decide +kernel
theorem dX6_spreadSide_51 : decode cX6_spreadSide 51 = .ok (.aload_n 0, 1) := by decide +kernel
theorem dX6_spreadSide_52 : decode cX6_spreadSide 52 = .ok (.getfield 35, 3) := by decide +kernel
theorem dX6_spreadSide_55 : decode cX6_spreadSide 55 = .ok (.getfield 290, 3) := by decide +kernel
theorem dX6_spreadSide_58 : decode cX6_spreadSide 58 = .ok (.iload_n 2, 1) := by decide +kernel
theorem dX6_spreadSide_59 : decode cX6_spreadSide 59 = .ok (.aload_n 0, 1) := by decide +kernel
theorem dX6_spreadSide_60 : decode cX6_spreadSide 60 = .ok (.getfield 28, 3) := by decide +kernel
theorem dX6_spreadSide_63 : decode cX6_spreadSide 63 = .ok (.getfield 287, 3) := by decide +kernel
theorem dX6_spreadSide_66 : decode cX6_spreadSide 66 = .ok (.iload_n 1, 1) := by decide +kernel
theorem dX6_spreadSide_67 : decode cX6_spreadSide 67 = .ok (.invokevirtual 140, 3) := by decide +kernel
theorem dX6_spreadSide_70 : decode cX6_spreadSide 70 = .ok (.invokevirtual 273, 3) := by decide +kernel
theorem dX6_spreadSide_73 : decode cX6_spreadSide 73 = .ok (.aload_n 0, 1) := by decide +kernel
theorem dX6_spreadSide_74 : decode cX6_spreadSide 74 = .ok (.getfield 28, 3) := by decide +kernel
theorem dX6_spreadSide_77 : decode cX6_spreadSide 77 = .ok (.getfield 293, 3) := by decide +kernel
theorem dX6_spreadSide_80 : decode cX6_spreadSide 80 = .ok (.iload_n 1, 1) := by decide +kernel
theorem dX6_spreadSide_81 : decode cX6_spreadSide 81 = .ok (.iload_n 2, 1) := by decide +kernel
theorem dX6_spreadSide_82 : decode cX6_spreadSide 82 = .ok (.invokevirtual 273, 3) := by decide +kernel
theorem dX6_spreadSide_85 : decode cX6_spreadSide 85 = .ok (.aload_n 0, 1) := by decide +kernel
theorem dX6_spreadSide_86 : decode cX6_spreadSide 86 = .ok (.getfield 28, 3) := by decide +kernel
theorem dX6_spreadSide_89 : decode cX6_spreadSide 89 = .ok (.getfield 137, 3) := by decide +kernel
theorem dX6_spreadSide_92 : decode cX6_spreadSide 92 = .ok (.iload_n 1, 1) := by decide +kernel
theorem dX6_spreadSide_93 : decode cX6_spreadSide 93 = .ok (.aload_n 0, 1) := by decide +kernel
theorem dX6_spreadSide_94 : decode cX6_spreadSide 94 = .ok (.getfield 28, 3) := by decide +kernel
theorem dX6_spreadSide_97 : decode cX6_spreadSide 97 = .ok (.getfield 137, 3) := by decide +kernel
theorem dX6_spreadSide_100 : decode cX6_spreadSide 100 = .ok (.iload_n 1, 1) := by decide +kernel
theorem dX6_spreadSide_101 : decode cX6_spreadSide 101 = .ok (.invokevirtual 140, 3) := by decide +kernel
theorem dX6_spreadSide_104 : decode cX6_spreadSide 104 = .ok (.iconst 1, 1) := by decide +kernel
theorem dX6_spreadSide_105 : decode cX6_spreadSide 105 = .ok (.iadd, 1) := by decide +kernel
theorem dX6_spreadSide_106 : decode cX6_spreadSide 106 = .ok (.invokevirtual 273, 3) := by decide +kernel
theorem dX6_spreadSide_109 : decode cX6_spreadSide 109 = .ok (.return_, 1) := by decide +kernel
def f_X6_spreadSide_b51 (F : Nat) (S : CS) (a0 : Nat) (D : CD) (x1 : Int32) (x2 : Int32) : Option CD := ckK S a0 6 <| cal (S.2.2.1 a0 3) fun p2 => ckK S p2 0 <| cal (S.2.2.1 p2 3) fun p5 => cal (S.2.2.1 a0 2) fun p7 => ckK S p7 5 <| cal (S.2.2.1 p7 3) fun p10 => ckK S p10 3 <| cal (f_X3_get F S D p10 x1) fun t14 => ckK S p5 3 <| cal (f_X3_set F S D p5 x2 t14) fun D17 => cal (S.2.2.1 a0 2) fun p18 => ckK S p18 5 <| cal (S.2.2.1 p18 4) fun p21 => ckK S p21 3 <| cal (f_X3_set F S D17 p21 x1 x2) fun D25 => cal (S.2.2.1 a0 2) fun p26 => ckK S p26 5 <| cal (S.2.2.1 p26 2) fun p29 => cal (S.2.2.1 a0 2) fun p31 => ckK S p31 5 <| cal (S.2.2.1 p31 2) fun p34 => ckK S p34 3 <| cal (f_X3_get F S D25 p34 x1) fun t38 => ckK S p29 3 <| cal (f_X3_set F S D25 p29 x1 (t38 + 1)) fun D41 => some D41
def f_X6_spreadSide (F : Nat) (S : CS) (D : CD) (a0 : Nat) (a1 : Int32) (a2 : Int32) : Option CD := ckK S a0 6 <| cal (S.2.2.1 a0 2) fun p2 => ckK S p2 5 <| cal (S.2.2.1 p2 2) fun p5 => ckK S p5 3 <| cal (f_X3_get F S D p5 a1) fun t9 => (if t9 = 0 then cal (S.2.2.1 a0 2) fun p27 => ckK S p27 5 <| cal (S.2.2.1 p27 3) fun p30 => ckK S p30 3 <| cal (f_X3_set F S D p30 a1 a2) fun D34 => f_X6_spreadSide_b51 F S a0 D34 a1 a2 else cal (S.2.2.1 a0 3) fun p11 => ckK S p11 0 <| cal (S.2.2.1 p11 3) fun p14 => cal (S.2.2.1 a0 2) fun p16 => ckK S p16 5 <| cal (S.2.2.1 p16 4) fun p19 => ckK S p19 3 <| cal (f_X3_get F S D p19 a1) fun t23 => ckK S p14 3 <| cal (f_X3_set F S D p14 t23 a2) fun D26 => f_X6_spreadSide_b51 F S a0 D26 a1 a2)
set_option maxRecDepth 100000 in
set_option maxHeartbeats 4000000 in
theorem m_X6_spreadSide (l : Launch) (G : cG) (F : Nat) (S : CS) (D D2 : CD) (a0 : Nat) (a1 : Int32) (a2 : Int32) (h : f_X6_spreadSide F S D a0 a1 a2 = some D2) : cMV l yX6_spreadSide vX6_spreadSide ({ frames := 1, cells := 0, slots := 0, locals := 22 }) G S [.ref a0, .int a1, .int a2] D D2 := by
  refine cBodyV (cc := cX6_spreadSide) (maxL := 3) (ret := none) (own := RX6) (by decide) rfl rfl ?_
  intro sz p e s m below meth c hC hP
  have hC0 := hC
  obtain ⟨hx, hb, -, hts, hown, -, hml, -, -, -⟩ := hC0
  have hS : va_S (cA G S sz) s.heap s.heap [] := va_S.rf
  have hin_X0 : ∀ w ∈ wsX00, w ∈ vX6_spreadSide := fun w h => List.mem_cons_of_mem _ (hWC0 w h)
  have hin_X5 : ∀ w ∈ wsX50, w ∈ vX6_spreadSide := fun w h => List.mem_cons_of_mem _ (hWC5 w h)
  have hin_X6 : ∀ w ∈ wsX60, w ∈ vX6_spreadSide := fun w h => List.mem_cons_of_mem _ (hWC6 w h)
  have fl_X6_corners := hts _ (List.mem_cons_of_mem _ wc_74)
  have fl_X6_pieces := hts _ (List.mem_cons_of_mem _ wc_76)
  have b51 : ∀ (H : Heap) (locs : List Loc) (ls : Array Slot) (D : CD) (x1 : Int32) (x2 : Int32), va_P G.1 vwCl (cW G S D) H → va_S (cA G S sz) s.heap H locs → lv_has ls 3 [(0, .ref a0), (1, .int x1), (2, .int x2)] → f_X6_spreadSide_b51 F S a0 D x1 x2 = some D2 → W p l e (headSpec vX6_spreadSide ({ frames := 1, cells := 0, slots := 0, locals := 22 })).room s m ([.ref a0, .int a1, .int a2] : List Value).toArray below meth c H locs 0 0 (cQV below G S D2 sz ([.ref a0, .int a1, .int a2] : List Value).toArray s) (F0 m 51 ls []) := by
    intro H locs ls D x1 x2 hP hS hl h
    unfold f_X6_spreadSide_b51 at h
    refine lv_aload_n hx hb dX6_spreadSide_51 rfl (lv_at hl 0 rfl) ?_
    obtain ⟨z1, h⟩ := ckK_el h
    obtain ⟨p2, e3, h⟩ := cal_el h
    refine c_get (C := RX6) (T := TX6) (N := 8) (ref := "SegmentMap") (ci := 7) (v := .ref p2) hC hin_X6 hP z1.1 (cE_6 z1.2) rfl 3 (by decide) fl_X6_pieces rfl (by show some (va_rf (S.2.2.1 a0 3)) = _; rw [e3]; rfl) dX6_spreadSide_52 ?_
    obtain ⟨z4, h⟩ := ckK_el h
    obtain ⟨p5, e6, h⟩ := cal_el h
    refine c_getN (C := RX0) (T := TX0) (N := 6) (ref := "SegmentMap$Edges") (ci := 1) (v := .ref p5) hC hin_X0 hP z4.1 (cE_0 z4.2) rfl 3 (by decide) (nm := "above") (ds := "LSegmentMap$Row;") (List.mem_of_getElem? (i := 19) rfl) rfl (by show some (va_rf (S.2.2.1 p2 3)) = _; rw [e6]; rfl) dX6_spreadSide_55 ?_
    refine lv_iload_n hx hb dX6_spreadSide_58 rfl (lv_at hl 2 rfl) ?_
    refine lv_aload_n hx hb dX6_spreadSide_59 rfl (lv_at hl 0 rfl) ?_
    obtain ⟨p7, e8, h⟩ := cal_el h
    refine c_get (C := RX6) (T := TX6) (N := 8) (ref := "SegmentMap") (ci := 7) (v := .ref p7) hC hin_X6 hP z1.1 (cE_6 z1.2) rfl 2 (by decide) fl_X6_corners rfl (by show some (va_rf (S.2.2.1 a0 2)) = _; rw [e8]; rfl) dX6_spreadSide_60 ?_
    obtain ⟨z9, h⟩ := ckK_el h
    obtain ⟨p10, e11, h⟩ := cal_el h
    refine c_getN (C := RX5) (T := TX5) (N := 7) (ref := "SegmentMap$Vertices") (ci := 6) (v := .ref p10) hC hin_X5 hP z9.1 (cE_5 z9.2) rfl 3 (by decide) (nm := "lowest") (ds := "LSegmentMap$Row;") (List.mem_of_getElem? (i := 18) rfl) rfl (by show some (va_rf (S.2.2.1 p7 3)) = _; rw [e11]; rfl) dX6_spreadSide_63 ?_
    refine lv_iload_n hx hb dX6_spreadSide_66 rfl (lv_at hl 1 rfl) ?_
    obtain ⟨z12, h⟩ := ckK_el h
    obtain ⟨t14, e13, h⟩ := cal_el h
    refine c_VI (As := [.int x1]) (rest := [.int x2, .ref p5]) hC hP hS z12.1 (cE_3 z12.2) (C := RX3) (T := TX3) (N := 1) rfl (m_X3_get l G F S D p10 x1 t14 e13) (cwV 1 hts (gWC wc_99 wc_100 wc_101 wc_102 wc_96) rfl rfl rfl (by decide +kernel) ⟨Nat.le_of_ble_eq_true rfl, Nat.le_of_ble_eq_true rfl⟩) rfl hl.1 rfl (Nat.le_of_ble_eq_true rfl) dX6_spreadSide_67 (fun H locs hP hS => ?_)
    obtain ⟨z15, h⟩ := ckK_el h
    obtain ⟨D17, e16, h⟩ := cal_el h
    refine c_VV (As := [.int x2, .int t14]) (rest := []) hC hP hS z15.1 (cE_3 z15.2) (C := RX3) (T := TX3) (N := 1) rfl (m_X3_set l G F S D D17 p5 x2 t14 e16) (cwV 2 hts (gWC wc_259 wc_247 wc_248 wc_102 wc_240) rfl rfl rfl (by decide +kernel) ⟨Nat.le_of_ble_eq_true rfl, Nat.le_of_ble_eq_true rfl⟩) rfl hl.1 rfl (Nat.le_of_ble_eq_true rfl) dX6_spreadSide_70 (fun H locs hP hS => ?_)
    refine lv_aload_n hx hb dX6_spreadSide_73 rfl (lv_at hl 0 rfl) ?_
    obtain ⟨p18, e19, h⟩ := cal_el h
    refine c_get (C := RX6) (T := TX6) (N := 8) (ref := "SegmentMap") (ci := 7) (v := .ref p18) hC hin_X6 hP z1.1 (cE_6 z1.2) rfl 2 (by decide) fl_X6_corners rfl (by show some (va_rf (S.2.2.1 a0 2)) = _; rw [e19]; rfl) dX6_spreadSide_74 ?_
    obtain ⟨z20, h⟩ := ckK_el h
    obtain ⟨p21, e22, h⟩ := cal_el h
    refine c_getN (C := RX5) (T := TX5) (N := 7) (ref := "SegmentMap$Vertices") (ci := 6) (v := .ref p21) hC hin_X5 hP z20.1 (cE_5 z20.2) rfl 4 (by decide) (nm := "top") (ds := "LSegmentMap$Row;") (List.mem_of_getElem? (i := 20) rfl) rfl (by show some (va_rf (S.2.2.1 p18 4)) = _; rw [e22]; rfl) dX6_spreadSide_77 ?_
    refine lv_iload_n hx hb dX6_spreadSide_80 rfl (lv_at hl 1 rfl) ?_
    refine lv_iload_n hx hb dX6_spreadSide_81 rfl (lv_at hl 2 rfl) ?_
    obtain ⟨z23, h⟩ := ckK_el h
    obtain ⟨D25, e24, h⟩ := cal_el h
    refine c_VV (As := [.int x1, .int x2]) (rest := []) hC hP hS z23.1 (cE_3 z23.2) (C := RX3) (T := TX3) (N := 1) rfl (m_X3_set l G F S D17 D25 p21 x1 x2 e24) (cwV 2 hts (gWC wc_259 wc_247 wc_248 wc_102 wc_240) rfl rfl rfl (by decide +kernel) ⟨Nat.le_of_ble_eq_true rfl, Nat.le_of_ble_eq_true rfl⟩) rfl hl.1 rfl (Nat.le_of_ble_eq_true rfl) dX6_spreadSide_82 (fun H locs hP hS => ?_)
    refine lv_aload_n hx hb dX6_spreadSide_85 rfl (lv_at hl 0 rfl) ?_
    obtain ⟨p26, e27, h⟩ := cal_el h
    refine c_get (C := RX6) (T := TX6) (N := 8) (ref := "SegmentMap") (ci := 7) (v := .ref p26) hC hin_X6 hP z1.1 (cE_6 z1.2) rfl 2 (by decide) fl_X6_corners rfl (by show some (va_rf (S.2.2.1 a0 2)) = _; rw [e27]; rfl) dX6_spreadSide_86 ?_
    obtain ⟨z28, h⟩ := ckK_el h
    obtain ⟨p29, e30, h⟩ := cal_el h
    refine c_getN (C := RX5) (T := TX5) (N := 7) (ref := "SegmentMap$Vertices") (ci := 6) (v := .ref p29) hC hin_X5 hP z28.1 (cE_5 z28.2) rfl 2 (by decide) (nm := "outgoing") (ds := "LSegmentMap$Row;") (List.mem_of_getElem? (i := 7) rfl) rfl (by show some (va_rf (S.2.2.1 p26 2)) = _; rw [e30]; rfl) dX6_spreadSide_89 ?_
    refine lv_iload_n hx hb dX6_spreadSide_92 rfl (lv_at hl 1 rfl) ?_
    refine lv_aload_n hx hb dX6_spreadSide_93 rfl (lv_at hl 0 rfl) ?_
    obtain ⟨p31, e32, h⟩ := cal_el h
    refine c_get (C := RX6) (T := TX6) (N := 8) (ref := "SegmentMap") (ci := 7) (v := .ref p31) hC hin_X6 hP z1.1 (cE_6 z1.2) rfl 2 (by decide) fl_X6_corners rfl (by show some (va_rf (S.2.2.1 a0 2)) = _; rw [e32]; rfl) dX6_spreadSide_94 ?_
    obtain ⟨z33, h⟩ := ckK_el h
    obtain ⟨p34, e35, h⟩ := cal_el h
    refine c_getN (C := RX5) (T := TX5) (N := 7) (ref := "SegmentMap$Vertices") (ci := 6) (v := .ref p34) hC hin_X5 hP z33.1 (cE_5 z33.2) rfl 2 (by decide) (nm := "outgoing") (ds := "LSegmentMap$Row;") (List.mem_of_getElem? (i := 7) rfl) rfl (by show some (va_rf (S.2.2.1 p31 2)) = _; rw [e35]; rfl) dX6_spreadSide_97 ?_
    refine lv_iload_n hx hb dX6_spreadSide_100 rfl (lv_at hl 1 rfl) ?_
    obtain ⟨z36, h⟩ := ckK_el h
    obtain ⟨t38, e37, h⟩ := cal_el h
    refine c_VI (As := [.int x1]) (rest := [.int x1, .ref p29]) hC hP hS z36.1 (cE_3 z36.2) (C := RX3) (T := TX3) (N := 1) rfl (m_X3_get l G F S D25 p34 x1 t38 e37) (cwV 1 hts (gWC wc_99 wc_100 wc_101 wc_102 wc_96) rfl rfl rfl (by decide +kernel) ⟨Nat.le_of_ble_eq_true rfl, Nat.le_of_ble_eq_true rfl⟩) rfl hl.1 rfl (Nat.le_of_ble_eq_true rfl) dX6_spreadSide_101 (fun H locs hP hS => ?_)
    refine lv_iconst (v := 1) hx hb dX6_spreadSide_104 (by decide) ?_
    refine lv_iadd hx hb dX6_spreadSide_105 ?_
    obtain ⟨z39, h⟩ := ckK_el h
    obtain ⟨D41, e40, h⟩ := cal_el h
    refine c_VV (As := [.int x1, .int (t38 + 1)]) (rest := []) hC hP hS z39.1 (cE_3 z39.2) (C := RX3) (T := TX3) (N := 1) rfl (m_X3_set l G F S D25 D41 p29 x1 (t38 + 1) e40) (cwV 2 hts (gWC wc_259 wc_247 wc_248 wc_102 wc_240) rfl rfl rfl (by decide +kernel) ⟨Nat.le_of_ble_eq_true rfl, Nat.le_of_ble_eq_true rfl⟩) rfl hl.1 rfl (Nat.le_of_ble_eq_true rfl) dX6_spreadSide_106 (fun H locs hP hS => ?_)
    cases h
    exact c_vret hC hP hS dX6_spreadSide_109
  refine m_entry (Nat.le_of_ble_eq_true rfl) (fun ls hl => ?_)
  have hl : lv_has ls 3 [(0, .ref a0), (1, .int a1), (2, .int a2)] := hl
  unfold f_X6_spreadSide at h
  refine lv_aload_n hx hb dX6_spreadSide_0 rfl (lv_at hl 0 rfl) ?_
  obtain ⟨z1, h⟩ := ckK_el h
  obtain ⟨p2, e3, h⟩ := cal_el h
  refine c_get (C := RX6) (T := TX6) (N := 8) (ref := "SegmentMap") (ci := 7) (v := .ref p2) hC hin_X6 hP z1.1 (cE_6 z1.2) rfl 2 (by decide) fl_X6_corners rfl (by show some (va_rf (S.2.2.1 a0 2)) = _; rw [e3]; rfl) dX6_spreadSide_1 ?_
  obtain ⟨z4, h⟩ := ckK_el h
  obtain ⟨p5, e6, h⟩ := cal_el h
  refine c_getN (C := RX5) (T := TX5) (N := 7) (ref := "SegmentMap$Vertices") (ci := 6) (v := .ref p5) hC hin_X5 hP z4.1 (cE_5 z4.2) rfl 2 (by decide) (nm := "outgoing") (ds := "LSegmentMap$Row;") (List.mem_of_getElem? (i := 7) rfl) rfl (by show some (va_rf (S.2.2.1 p2 2)) = _; rw [e6]; rfl) dX6_spreadSide_4 ?_
  refine lv_iload_n hx hb dX6_spreadSide_7 rfl (lv_at hl 1 rfl) ?_
  obtain ⟨z7, h⟩ := ckK_el h
  obtain ⟨t9, e8, h⟩ := cal_el h
  refine c_VI (As := [.int a1]) (rest := []) hC hP hS z7.1 (cE_3 z7.2) (C := RX3) (T := TX3) (N := 1) rfl (m_X3_get l G F S D p5 a1 t9 e8) (cwV 1 hts (gWC wc_99 wc_100 wc_101 wc_102 wc_96) rfl rfl rfl (by decide +kernel) ⟨Nat.le_of_ble_eq_true rfl, Nat.le_of_ble_eq_true rfl⟩) rfl hl.1 rfl (Nat.le_of_ble_eq_true rfl) dX6_spreadSide_8 (fun H locs hP hS => ?_)
  refine lv_if_ne (tgt := 29) hx hb dX6_spreadSide_11 (by decide) (fun u10 => ?_) (fun u10 => ?_)
  · have h := ite_f u10 h
    refine lv_aload_n hx hb dX6_spreadSide_29 rfl (lv_at hl 0 rfl) ?_
    obtain ⟨p11, e12, h⟩ := cal_el h
    refine c_get (C := RX6) (T := TX6) (N := 8) (ref := "SegmentMap") (ci := 7) (v := .ref p11) hC hin_X6 hP z1.1 (cE_6 z1.2) rfl 3 (by decide) fl_X6_pieces rfl (by show some (va_rf (S.2.2.1 a0 3)) = _; rw [e12]; rfl) dX6_spreadSide_30 ?_
    obtain ⟨z13, h⟩ := ckK_el h
    obtain ⟨p14, e15, h⟩ := cal_el h
    refine c_getN (C := RX0) (T := TX0) (N := 6) (ref := "SegmentMap$Edges") (ci := 1) (v := .ref p14) hC hin_X0 hP z13.1 (cE_0 z13.2) rfl 3 (by decide) (nm := "above") (ds := "LSegmentMap$Row;") (List.mem_of_getElem? (i := 19) rfl) rfl (by show some (va_rf (S.2.2.1 p11 3)) = _; rw [e15]; rfl) dX6_spreadSide_33 ?_
    refine lv_aload_n hx hb dX6_spreadSide_36 rfl (lv_at hl 0 rfl) ?_
    obtain ⟨p16, e17, h⟩ := cal_el h
    refine c_get (C := RX6) (T := TX6) (N := 8) (ref := "SegmentMap") (ci := 7) (v := .ref p16) hC hin_X6 hP z1.1 (cE_6 z1.2) rfl 2 (by decide) fl_X6_corners rfl (by show some (va_rf (S.2.2.1 a0 2)) = _; rw [e17]; rfl) dX6_spreadSide_37 ?_
    obtain ⟨z18, h⟩ := ckK_el h
    obtain ⟨p19, e20, h⟩ := cal_el h
    refine c_getN (C := RX5) (T := TX5) (N := 7) (ref := "SegmentMap$Vertices") (ci := 6) (v := .ref p19) hC hin_X5 hP z18.1 (cE_5 z18.2) rfl 4 (by decide) (nm := "top") (ds := "LSegmentMap$Row;") (List.mem_of_getElem? (i := 20) rfl) rfl (by show some (va_rf (S.2.2.1 p16 4)) = _; rw [e20]; rfl) dX6_spreadSide_40 ?_
    refine lv_iload_n hx hb dX6_spreadSide_43 rfl (lv_at hl 1 rfl) ?_
    obtain ⟨z21, h⟩ := ckK_el h
    obtain ⟨t23, e22, h⟩ := cal_el h
    refine c_VI (As := [.int a1]) (rest := [.ref p14]) hC hP hS z21.1 (cE_3 z21.2) (C := RX3) (T := TX3) (N := 1) rfl (m_X3_get l G F S D p19 a1 t23 e22) (cwV 1 hts (gWC wc_99 wc_100 wc_101 wc_102 wc_96) rfl rfl rfl (by decide +kernel) ⟨Nat.le_of_ble_eq_true rfl, Nat.le_of_ble_eq_true rfl⟩) rfl hl.1 rfl (Nat.le_of_ble_eq_true rfl) dX6_spreadSide_44 (fun H locs hP hS => ?_)
    refine lv_iload_n hx hb dX6_spreadSide_47 rfl (lv_at hl 2 rfl) ?_
    obtain ⟨z24, h⟩ := ckK_el h
    obtain ⟨D26, e25, h⟩ := cal_el h
    refine c_VV (As := [.int t23, .int a2]) (rest := []) hC hP hS z24.1 (cE_3 z24.2) (C := RX3) (T := TX3) (N := 1) rfl (m_X3_set l G F S D D26 p14 t23 a2 e25) (cwV 2 hts (gWC wc_259 wc_247 wc_248 wc_102 wc_240) rfl rfl rfl (by decide +kernel) ⟨Nat.le_of_ble_eq_true rfl, Nat.le_of_ble_eq_true rfl⟩) rfl hl.1 rfl (Nat.le_of_ble_eq_true rfl) dX6_spreadSide_48 (fun H locs hP hS => ?_)
    exact b51 _ _ _ D26 a1 a2 hP hS (lv_sub hl [0, 1, 2] rfl) h
  · have h := ite_t u10 h
    refine lv_aload_n hx hb dX6_spreadSide_14 rfl (lv_at hl 0 rfl) ?_
    obtain ⟨p27, e28, h⟩ := cal_el h
    refine c_get (C := RX6) (T := TX6) (N := 8) (ref := "SegmentMap") (ci := 7) (v := .ref p27) hC hin_X6 hP z1.1 (cE_6 z1.2) rfl 2 (by decide) fl_X6_corners rfl (by show some (va_rf (S.2.2.1 a0 2)) = _; rw [e28]; rfl) dX6_spreadSide_15 ?_
    obtain ⟨z29, h⟩ := ckK_el h
    obtain ⟨p30, e31, h⟩ := cal_el h
    refine c_getN (C := RX5) (T := TX5) (N := 7) (ref := "SegmentMap$Vertices") (ci := 6) (v := .ref p30) hC hin_X5 hP z29.1 (cE_5 z29.2) rfl 3 (by decide) (nm := "lowest") (ds := "LSegmentMap$Row;") (List.mem_of_getElem? (i := 18) rfl) rfl (by show some (va_rf (S.2.2.1 p27 3)) = _; rw [e31]; rfl) dX6_spreadSide_18 ?_
    refine lv_iload_n hx hb dX6_spreadSide_21 rfl (lv_at hl 1 rfl) ?_
    refine lv_iload_n hx hb dX6_spreadSide_22 rfl (lv_at hl 2 rfl) ?_
    obtain ⟨z32, h⟩ := ckK_el h
    obtain ⟨D34, e33, h⟩ := cal_el h
    refine c_VV (As := [.int a1, .int a2]) (rest := []) hC hP hS z32.1 (cE_3 z32.2) (C := RX3) (T := TX3) (N := 1) rfl (m_X3_set l G F S D D34 p30 a1 a2 e33) (cwV 2 hts (gWC wc_259 wc_247 wc_248 wc_102 wc_240) rfl rfl rfl (by decide +kernel) ⟨Nat.le_of_ble_eq_true rfl, Nat.le_of_ble_eq_true rfl⟩) rfl hl.1 rfl (Nat.le_of_ble_eq_true rfl) dX6_spreadSide_23 (fun H locs hP hS => ?_)
    refine lv_goto (tgt := 51) hx hb dX6_spreadSide_26 (by decide) ?_
    exact b51 _ _ _ D34 a1 a2 hP hS (lv_sub hl [0, 1, 2] rfl) h

theorem dX6_spreadLine_0 : decode cX6_spreadLine 0 = .ok (.iconst 0, 1) := by decide +kernel
theorem dX6_spreadLine_1 : decode cX6_spreadLine 1 = .ok (.istore_n 3, 1) := by decide +kernel
theorem dX6_spreadLine_2 : decode cX6_spreadLine 2 = .ok (.iload_n 3, 1) := by decide +kernel
theorem dX6_spreadLine_3 : decode cX6_spreadLine 3 = .ok (.aload_n 0, 1) := by decide +kernel
theorem dX6_spreadLine_4 : decode cX6_spreadLine 4 = .ok (.getfield 35, 3) := by decide +kernel
theorem dX6_spreadLine_7 : decode cX6_spreadLine 7 = .ok (.getfield 112, 3) := by decide +kernel
theorem dX6_spreadLine_10 : decode cX6_spreadLine 10 = .ok (.if_icmp .ge 76, 3) := by decide +kernel
theorem dX6_spreadLine_13 : decode cX6_spreadLine 13 = .ok (.aload_n 0, 1) := by decide +kernel
theorem dX6_spreadLine_14 : decode cX6_spreadLine 14 = .ok (.getfield 35, 3) := by decide +kernel
theorem dX6_spreadLine_17 : decode cX6_spreadLine 17 = .ok (.getfield 147, 3) := by decide +kernel
theorem dX6_spreadLine_20 : decode cX6_spreadLine 20 = .ok (.iload_n 3, 1) := by decide +kernel
theorem dX6_spreadLine_21 : decode cX6_spreadLine 21 = .ok (.invokevirtual 140, 3) := by decide +kernel
theorem dX6_spreadLine_24 : decode cX6_spreadLine 24 = .ok (.iload_n 1, 1) := by decide +kernel
theorem dX6_spreadLine_25 : decode cX6_spreadLine 25 = .ok (.if_icmp .ne 55, 3) := by decide +kernel
theorem dX6_spreadLine_28 : decode cX6_spreadLine 28 = .ok (.iload_n 2, 1) := by decide +kernel
theorem dX6_spreadLine_29 : decode cX6_spreadLine 29 = .ok (.ifCond .eq 17, 3) := by decide +kernel
theorem dX6_spreadLine_32 : decode cX6_spreadLine 32 = .ok (.aload_n 0, 1) := by decide +kernel
theorem dX6_spreadLine_33 : decode cX6_spreadLine 33 = .ok (.getfield 35, 3) := by decide +kernel
theorem dX6_spreadLine_36 : decode cX6_spreadLine 36 = .ok (.getfield 150, 3) := by decide +kernel
theorem dX6_spreadLine_39 : decode cX6_spreadLine 39 = .ok (.iload_n 3, 1) := by decide +kernel
theorem dX6_spreadLine_40 : decode cX6_spreadLine 40 = .ok (.invokevirtual 140, 3) := by decide +kernel
theorem dX6_spreadLine_43 : decode cX6_spreadLine 43 = .ok (.goto 14, 3) := by decide +kernel
theorem dX6_spreadLine_46 : decode cX6_spreadLine 46 = .ok (.aload_n 0, 1) := by decide +kernel
theorem dX6_spreadLine_47 : decode cX6_spreadLine 47 = .ok (.getfield 35, 3) := by decide +kernel
theorem dX6_spreadLine_50 : decode cX6_spreadLine 50 = .ok (.getfield 153, 3) := by decide +kernel
theorem dX6_spreadLine_53 : decode cX6_spreadLine 53 = .ok (.iload_n 3, 1) := by decide +kernel
theorem dX6_spreadLine_54 : decode cX6_spreadLine 54 = .ok (.invokevirtual 140, 3) := by decide +kernel
theorem dX6_spreadLine_57 : decode cX6_spreadLine 57 = .ok (.istore 4, 2) := by decide +kernel
theorem dX6_spreadLine_59 : decode cX6_spreadLine 59 = .ok (.aload_n 0, 1) := by decide +kernel
theorem dX6_spreadLine_60 : decode cX6_spreadLine 60 = .ok (.iload 4, 2) := by decide +kernel
theorem dX6_spreadLine_62 : decode cX6_spreadLine 62 = .ok (.iload_n 2, 1) := by decide +kernel
theorem dX6_spreadLine_63 : decode cX6_spreadLine 63 = .ok (.ifCond .eq 9, 3) := by decide +kernel
theorem dX6_spreadLine_66 : decode cX6_spreadLine 66 = .ok (.iconst 2, 1) := by decide +kernel
theorem dX6_spreadLine_67 : decode cX6_spreadLine 67 = .ok (.iload_n 3, 1) := by decide +kernel
theorem dX6_spreadLine_68 : decode cX6_spreadLine 68 = .ok (.imul, 1) := by decide +kernel
theorem dX6_spreadLine_69 : decode cX6_spreadLine 69 = .ok (.goto 8, 3) := by decide +kernel
theorem dX6_spreadLine_72 : decode cX6_spreadLine 72 = .ok (.iconst 2, 1) := by decide +kernel
theorem dX6_spreadLine_73 : decode cX6_spreadLine 73 = .ok (.iload_n 3, 1) := by decide +kernel
theorem dX6_spreadLine_74 : decode cX6_spreadLine 74 = .ok (.imul, 1) := by decide +kernel
theorem dX6_spreadLine_75 : decode cX6_spreadLine 75 = .ok (.iconst 1, 1) := by decide +kernel
theorem dX6_spreadLine_76 : decode cX6_spreadLine 76 = .ok (.iadd, 1) := by decide +kernel
theorem dX6_spreadLine_77 : decode cX6_spreadLine 77 = .ok (.invokevirtual 284, 3) := by decide +kernel
theorem dX6_spreadLine_80 : decode cX6_spreadLine 80 = .ok (.iinc 3 1, 3) := by decide +kernel
theorem dX6_spreadLine_83 : decode cX6_spreadLine 83 = .ok (.goto (-81), 3) := by decide +kernel
theorem dX6_spreadLine_86 : decode cX6_spreadLine 86 = .ok (.return_, 1) := by decide +kernel
def f_X6_spreadLine_b80 (F : Nat) (S : CS) (a0 : Nat) (k2 : CD → Int32 → Int32 → Int32 → Option CD) (D : CD) (x1 : Int32) (x2 : Int32) (x3 : Int32) : Option CD := k2 D x1 x2 (x3 + 1)
def f_X6_spreadLine_b77 (F : Nat) (S : CS) (a0 : Nat) (k2 : CD → Int32 → Int32 → Int32 → Option CD) (D : CD) (x1 : Int32) (x2 : Int32) (x3 : Int32) (s0 : Int32) (s1 : Int32) (s2 : Nat) : Option CD := ckK S s2 6 <| cal (f_X6_spreadSide F S D s2 s1 s0) fun D3 => f_X6_spreadLine_b80 F S a0 k2 D3 x1 x2 x3
def f_X6_spreadLine_b57 (F : Nat) (S : CS) (a0 : Nat) (k2 : CD → Int32 → Int32 → Int32 → Option CD) (D : CD) (x1 : Int32) (x2 : Int32) (x3 : Int32) (s0 : Int32) : Option CD := (if x2 = 0 then f_X6_spreadLine_b77 F S a0 k2 D x1 x2 x3 ((2 * x3) + 1) s0 a0 else f_X6_spreadLine_b77 F S a0 k2 D x1 x2 x3 (2 * x3) s0 a0)
def f_X6_spreadLine_L2 (F : Nat) (S : CS) (a0 : Nat) : Nat → CD → Int32 → Int32 → Int32 → Option CD
  | 0, _, _, _, _ => none
  | n2 + 1, D, x1, x2, x3 => ckK S a0 6 <| cal (S.2.2.1 a0 3) fun p2 => ckK S p2 0 <| (if (D.1 p2 5) ≤ x3 then some D else cal (S.2.2.1 a0 3) fun p6 => ckK S p6 0 <| cal (S.2.2.1 p6 0) fun p9 => ckK S p9 3 <| cal (f_X3_get F S D p9 x3) fun t13 => (if t13 = x1 then (if x2 = 0 then cal (S.2.2.1 a0 3) fun p16 => ckK S p16 0 <| cal (S.2.2.1 p16 2) fun p19 => ckK S p19 3 <| cal (f_X3_get F S D p19 x3) fun t23 => f_X6_spreadLine_b57 F S a0 ((f_X6_spreadLine_L2 F S a0 n2)) D x1 x2 x3 t23 else cal (S.2.2.1 a0 3) fun p24 => ckK S p24 0 <| cal (S.2.2.1 p24 1) fun p27 => ckK S p27 3 <| cal (f_X3_get F S D p27 x3) fun t31 => f_X6_spreadLine_b57 F S a0 ((f_X6_spreadLine_L2 F S a0 n2)) D x1 x2 x3 t31) else f_X6_spreadLine_b80 F S a0 ((f_X6_spreadLine_L2 F S a0 n2)) D x1 x2 x3))
def f_X6_spreadLine (F : Nat) (S : CS) (D : CD) (a0 : Nat) (a1 : Int32) (a2 : Int32) : Option CD := f_X6_spreadLine_L2 F S a0 F D a1 a2 0
set_option maxRecDepth 100000 in
set_option maxHeartbeats 4000000 in
theorem m_X6_spreadLine (l : Launch) (G : cG) (F : Nat) (S : CS) (D D2 : CD) (a0 : Nat) (a1 : Int32) (a2 : Int32) (h : f_X6_spreadLine F S D a0 a1 a2 = some D2) : cMV l yX6_spreadLine vX6_spreadLine ({ frames := 2, cells := 0, slots := 0, locals := 44 }) G S [.ref a0, .int a1, .int a2] D D2 := by
  refine cBodyV (cc := cX6_spreadLine) (maxL := 5) (ret := none) (own := RX6) (by decide) rfl rfl ?_
  intro sz p e s m below meth c hC hP
  have hC0 := hC
  obtain ⟨hx, hb, -, hts, hown, -, hml, -, -, -⟩ := hC0
  have hS : va_S (cA G S sz) s.heap s.heap [] := va_S.rf
  have hin_X0 : ∀ w ∈ wsX00, w ∈ vX6_spreadLine := fun w h => List.mem_cons_of_mem _ (hWC0 w h)
  have hin_X6 : ∀ w ∈ wsX60, w ∈ vX6_spreadLine := fun w h => List.mem_cons_of_mem _ (hWC6 w h)
  have fl_X6_pieces := hts _ (List.mem_cons_of_mem _ wc_76)
  have L2 : ∀ (n2 : Nat) (H : Heap) (locs : List Loc) (ls : Array Slot) (D : CD) (x1 : Int32) (x2 : Int32) (x3 : Int32), va_P G.1 vwCl (cW G S D) H → va_S (cA G S sz) s.heap H locs → lv_has ls 5 [(0, .ref a0), (1, .int x1), (2, .int x2), (3, .int x3)] → f_X6_spreadLine_L2 F S a0 n2 D x1 x2 x3 = some D2 → W p l e (headSpec vX6_spreadLine ({ frames := 2, cells := 0, slots := 0, locals := 44 })).room s m ([.ref a0, .int a1, .int a2] : List Value).toArray below meth c H locs 0 0 (cQV below G S D2 sz ([.ref a0, .int a1, .int a2] : List Value).toArray s) (F0 m 2 ls []) := by
    intro n2
    induction n2 with
    | zero =>
      intro H locs ls D x1 x2 x3 hP hS hl h
      rw [f_X6_spreadLine_L2] at h; cases h
    | succ n2 ih2 =>
      have b80 : ∀ (H : Heap) (locs : List Loc) (ls : Array Slot) (D : CD) (x1 : Int32) (x2 : Int32) (x3 : Int32), va_P G.1 vwCl (cW G S D) H → va_S (cA G S sz) s.heap H locs → lv_has ls 5 [(0, .ref a0), (1, .int x1), (2, .int x2), (3, .int x3)] → f_X6_spreadLine_b80 F S a0 ((f_X6_spreadLine_L2 F S a0 n2)) D x1 x2 x3 = some D2 → W p l e (headSpec vX6_spreadLine ({ frames := 2, cells := 0, slots := 0, locals := 44 })).room s m ([.ref a0, .int a1, .int a2] : List Value).toArray below meth c H locs 0 0 (cQV below G S D2 sz ([.ref a0, .int a1, .int a2] : List Value).toArray s) (F0 m 80 ls []) := by
        intro H locs ls D x1 x2 x3 hP hS hl h
        unfold f_X6_spreadLine_b80 at h
        refine lv_iinc (v := x3 + 1) (lv' := [(3, .int (x3 + 1)), (0, .ref a0), (1, .int x1), (2, .int x2)]) hx hb dX6_spreadLine_80 hl (k := 3) rfl rfl (by decide) rfl (fun ls hl => ?_)
        refine lv_goto (tgt := 2) hx hb dX6_spreadLine_83 (by decide) ?_
        exact ih2 _ _ _ D x1 x2 (x3 + 1) hP hS (lv_sub hl [1, 2, 3, 0] rfl) h
      have b77 : ∀ (H : Heap) (locs : List Loc) (ls : Array Slot) (D : CD) (x1 : Int32) (x2 : Int32) (x3 : Int32) (s0 : Int32) (s1 : Int32) (s2 : Nat), va_P G.1 vwCl (cW G S D) H → va_S (cA G S sz) s.heap H locs → lv_has ls 5 [(0, .ref a0), (1, .int x1), (2, .int x2), (3, .int x3)] → f_X6_spreadLine_b77 F S a0 ((f_X6_spreadLine_L2 F S a0 n2)) D x1 x2 x3 s0 s1 s2 = some D2 → W p l e (headSpec vX6_spreadLine ({ frames := 2, cells := 0, slots := 0, locals := 44 })).room s m ([.ref a0, .int a1, .int a2] : List Value).toArray below meth c H locs 0 0 (cQV below G S D2 sz ([.ref a0, .int a1, .int a2] : List Value).toArray s) (F0 m 77 ls [.int s0, .int s1, .ref s2]) := by
        intro H locs ls D x1 x2 x3 s0 s1 s2 hP hS hl h
        unfold f_X6_spreadLine_b77 at h
        obtain ⟨z1, h⟩ := ckK_el h
        obtain ⟨D3, e2, h⟩ := cal_el h
        refine c_VV (As := [.int s1, .int s0]) (rest := []) hC hP hS z1.1 (cE_6 z1.2) (C := RX6) (T := TX6) (N := 8) rfl (m_X6_spreadSide l G F S D D3 s2 s1 s0 e2) (cwV 2 hts (gWC wc_268 wc_269 wc_270 wc_66 wc_266) rfl rfl rfl (by decide +kernel) ⟨Nat.le_of_ble_eq_true rfl, Nat.le_of_ble_eq_true rfl⟩) rfl hl.1 rfl (Nat.le_of_ble_eq_true rfl) dX6_spreadLine_77 (fun H locs hP hS => ?_)
        exact b80 _ _ _ D3 x1 x2 x3 hP hS (lv_sub hl [0, 1, 2, 3] rfl) h
      have b57 : ∀ (H : Heap) (locs : List Loc) (ls : Array Slot) (D : CD) (x1 : Int32) (x2 : Int32) (x3 : Int32) (s0 : Int32), va_P G.1 vwCl (cW G S D) H → va_S (cA G S sz) s.heap H locs → lv_has ls 5 [(0, .ref a0), (1, .int x1), (2, .int x2), (3, .int x3)] → f_X6_spreadLine_b57 F S a0 ((f_X6_spreadLine_L2 F S a0 n2)) D x1 x2 x3 s0 = some D2 → W p l e (headSpec vX6_spreadLine ({ frames := 2, cells := 0, slots := 0, locals := 44 })).room s m ([.ref a0, .int a1, .int a2] : List Value).toArray below meth c H locs 0 0 (cQV below G S D2 sz ([.ref a0, .int a1, .int a2] : List Value).toArray s) (F0 m 57 ls [.int s0]) := by
        intro H locs ls D x1 x2 x3 s0 hP hS hl h
        unfold f_X6_spreadLine_b57 at h
        refine lv_istore (lv' := [(4, .int s0), (0, .ref a0), (1, .int x1), (2, .int x2), (3, .int x3)]) hx hb dX6_spreadLine_57 hl (by decide) rfl (fun ls hl => ?_)
        refine lv_aload_n hx hb dX6_spreadLine_59 rfl (lv_at hl 1 rfl) ?_
        refine lv_iload hx hb dX6_spreadLine_60 (lv_at hl 0 rfl) ?_
        refine lv_iload_n hx hb dX6_spreadLine_62 rfl (lv_at hl 3 rfl) ?_
        refine lv_if_eq (tgt := 72) hx hb dX6_spreadLine_63 (by decide) (fun u1 => ?_) (fun u1 => ?_)
        · have h := ite_t u1 h
          refine lv_iconst (v := 2) hx hb dX6_spreadLine_72 (by decide) ?_
          refine lv_iload_n hx hb dX6_spreadLine_73 rfl (lv_at hl 4 rfl) ?_
          refine lv_imul hx hb dX6_spreadLine_74 ?_
          refine lv_iconst (v := 1) hx hb dX6_spreadLine_75 (by decide) ?_
          refine lv_iadd hx hb dX6_spreadLine_76 ?_
          exact b77 _ _ _ D x1 x2 x3 ((2 * x3) + 1) s0 a0 hP hS (lv_sub hl [1, 2, 3, 4] rfl) h
        · have h := ite_f u1 h
          refine lv_iconst (v := 2) hx hb dX6_spreadLine_66 (by decide) ?_
          refine lv_iload_n hx hb dX6_spreadLine_67 rfl (lv_at hl 4 rfl) ?_
          refine lv_imul hx hb dX6_spreadLine_68 ?_
          refine lv_goto (tgt := 77) hx hb dX6_spreadLine_69 (by decide) ?_
          exact b77 _ _ _ D x1 x2 x3 (2 * x3) s0 a0 hP hS (lv_sub hl [1, 2, 3, 4] rfl) h
      intro H locs ls D x1 x2 x3 hP hS hl h
      rw [f_X6_spreadLine_L2] at h
      refine lv_iload_n hx hb dX6_spreadLine_2 rfl (lv_at hl 3 rfl) ?_
      refine lv_aload_n hx hb dX6_spreadLine_3 rfl (lv_at hl 0 rfl) ?_
      obtain ⟨z1, h⟩ := ckK_el h
      obtain ⟨p2, e3, h⟩ := cal_el h
      refine c_get (C := RX6) (T := TX6) (N := 8) (ref := "SegmentMap") (ci := 7) (v := .ref p2) hC hin_X6 hP z1.1 (cE_6 z1.2) rfl 3 (by decide) fl_X6_pieces rfl (by show some (va_rf (S.2.2.1 a0 3)) = _; rw [e3]; rfl) dX6_spreadLine_4 ?_
      obtain ⟨z4, h⟩ := ckK_el h
      refine c_getN (C := RX0) (T := TX0) (N := 6) (ref := "SegmentMap$Edges") (ci := 1) (v := .int (D.1 p2 5)) hC hin_X0 hP z4.1 (cE_0 z4.2) rfl 5 (by decide) (nm := "count") (ds := "I") (List.mem_of_getElem? (i := 1) rfl) rfl rfl dX6_spreadLine_7 ?_
      refine lv_icmp_ge (tgt := 86) hx hb dX6_spreadLine_10 (by decide) (fun u5 => ?_) (fun u5 => ?_)
      · have h := ite_t u5 h
        cases h
        exact c_vret hC hP hS dX6_spreadLine_86
      · have h := ite_f u5 h
        refine lv_aload_n hx hb dX6_spreadLine_13 rfl (lv_at hl 0 rfl) ?_
        obtain ⟨p6, e7, h⟩ := cal_el h
        refine c_get (C := RX6) (T := TX6) (N := 8) (ref := "SegmentMap") (ci := 7) (v := .ref p6) hC hin_X6 hP z1.1 (cE_6 z1.2) rfl 3 (by decide) fl_X6_pieces rfl (by show some (va_rf (S.2.2.1 a0 3)) = _; rw [e7]; rfl) dX6_spreadLine_14 ?_
        obtain ⟨z8, h⟩ := ckK_el h
        obtain ⟨p9, e10, h⟩ := cal_el h
        refine c_getN (C := RX0) (T := TX0) (N := 6) (ref := "SegmentMap$Edges") (ci := 1) (v := .ref p9) hC hin_X0 hP z8.1 (cE_0 z8.2) rfl 0 (by decide) (nm := "line") (ds := "LSegmentMap$Row;") (List.mem_of_getElem? (i := 8) rfl) rfl (by show some (va_rf (S.2.2.1 p6 0)) = _; rw [e10]; rfl) dX6_spreadLine_17 ?_
        refine lv_iload_n hx hb dX6_spreadLine_20 rfl (lv_at hl 3 rfl) ?_
        obtain ⟨z11, h⟩ := ckK_el h
        obtain ⟨t13, e12, h⟩ := cal_el h
        refine c_VI (As := [.int x3]) (rest := []) hC hP hS z11.1 (cE_3 z11.2) (C := RX3) (T := TX3) (N := 1) rfl (m_X3_get l G F S D p9 x3 t13 e12) (cwV 1 hts (gWC wc_99 wc_100 wc_101 wc_102 wc_96) rfl rfl rfl (by decide +kernel) ⟨Nat.le_of_ble_eq_true rfl, Nat.le_of_ble_eq_true rfl⟩) rfl hl.1 rfl (Nat.le_of_ble_eq_true rfl) dX6_spreadLine_21 (fun H locs hP hS => ?_)
        refine lv_iload_n hx hb dX6_spreadLine_24 rfl (lv_at hl 1 rfl) ?_
        refine lv_icmp_ne (tgt := 80) hx hb dX6_spreadLine_25 (by decide) (fun u14 => ?_) (fun u14 => ?_)
        · have h := ite_f u14 h
          exact b80 _ _ _ D x1 x2 x3 hP hS (lv_sub hl [0, 1, 2, 3] rfl) h
        · have h := ite_t u14 h
          refine lv_iload_n hx hb dX6_spreadLine_28 rfl (lv_at hl 2 rfl) ?_
          refine lv_if_eq (tgt := 46) hx hb dX6_spreadLine_29 (by decide) (fun u15 => ?_) (fun u15 => ?_)
          · have h := ite_t u15 h
            refine lv_aload_n hx hb dX6_spreadLine_46 rfl (lv_at hl 0 rfl) ?_
            obtain ⟨p16, e17, h⟩ := cal_el h
            refine c_get (C := RX6) (T := TX6) (N := 8) (ref := "SegmentMap") (ci := 7) (v := .ref p16) hC hin_X6 hP z1.1 (cE_6 z1.2) rfl 3 (by decide) fl_X6_pieces rfl (by show some (va_rf (S.2.2.1 a0 3)) = _; rw [e17]; rfl) dX6_spreadLine_47 ?_
            obtain ⟨z18, h⟩ := ckK_el h
            obtain ⟨p19, e20, h⟩ := cal_el h
            refine c_getN (C := RX0) (T := TX0) (N := 6) (ref := "SegmentMap$Edges") (ci := 1) (v := .ref p19) hC hin_X0 hP z18.1 (cE_0 z18.2) rfl 2 (by decide) (nm := "end") (ds := "LSegmentMap$Row;") (List.mem_of_getElem? (i := 10) rfl) rfl (by show some (va_rf (S.2.2.1 p16 2)) = _; rw [e20]; rfl) dX6_spreadLine_50 ?_
            refine lv_iload_n hx hb dX6_spreadLine_53 rfl (lv_at hl 3 rfl) ?_
            obtain ⟨z21, h⟩ := ckK_el h
            obtain ⟨t23, e22, h⟩ := cal_el h
            refine c_VI (As := [.int x3]) (rest := []) hC hP hS z21.1 (cE_3 z21.2) (C := RX3) (T := TX3) (N := 1) rfl (m_X3_get l G F S D p19 x3 t23 e22) (cwV 1 hts (gWC wc_99 wc_100 wc_101 wc_102 wc_96) rfl rfl rfl (by decide +kernel) ⟨Nat.le_of_ble_eq_true rfl, Nat.le_of_ble_eq_true rfl⟩) rfl hl.1 rfl (Nat.le_of_ble_eq_true rfl) dX6_spreadLine_54 (fun H locs hP hS => ?_)
            exact b57 _ _ _ D x1 x2 x3 t23 hP hS (lv_sub hl [0, 1, 2, 3] rfl) h
          · have h := ite_f u15 h
            refine lv_aload_n hx hb dX6_spreadLine_32 rfl (lv_at hl 0 rfl) ?_
            obtain ⟨p24, e25, h⟩ := cal_el h
            refine c_get (C := RX6) (T := TX6) (N := 8) (ref := "SegmentMap") (ci := 7) (v := .ref p24) hC hin_X6 hP z1.1 (cE_6 z1.2) rfl 3 (by decide) fl_X6_pieces rfl (by show some (va_rf (S.2.2.1 a0 3)) = _; rw [e25]; rfl) dX6_spreadLine_33 ?_
            obtain ⟨z26, h⟩ := ckK_el h
            obtain ⟨p27, e28, h⟩ := cal_el h
            refine c_getN (C := RX0) (T := TX0) (N := 6) (ref := "SegmentMap$Edges") (ci := 1) (v := .ref p27) hC hin_X0 hP z26.1 (cE_0 z26.2) rfl 1 (by decide) (nm := "start") (ds := "LSegmentMap$Row;") (List.mem_of_getElem? (i := 9) rfl) rfl (by show some (va_rf (S.2.2.1 p24 1)) = _; rw [e28]; rfl) dX6_spreadLine_36 ?_
            refine lv_iload_n hx hb dX6_spreadLine_39 rfl (lv_at hl 3 rfl) ?_
            obtain ⟨z29, h⟩ := ckK_el h
            obtain ⟨t31, e30, h⟩ := cal_el h
            refine c_VI (As := [.int x3]) (rest := []) hC hP hS z29.1 (cE_3 z29.2) (C := RX3) (T := TX3) (N := 1) rfl (m_X3_get l G F S D p27 x3 t31 e30) (cwV 1 hts (gWC wc_99 wc_100 wc_101 wc_102 wc_96) rfl rfl rfl (by decide +kernel) ⟨Nat.le_of_ble_eq_true rfl, Nat.le_of_ble_eq_true rfl⟩) rfl hl.1 rfl (Nat.le_of_ble_eq_true rfl) dX6_spreadLine_40 (fun H locs hP hS => ?_)
            refine lv_goto (tgt := 57) hx hb dX6_spreadLine_43 (by decide) ?_
            exact b57 _ _ _ D x1 x2 x3 t31 hP hS (lv_sub hl [0, 1, 2, 3] rfl) h
  refine m_entry (Nat.le_of_ble_eq_true rfl) (fun ls hl => ?_)
  have hl : lv_has ls 5 [(0, .ref a0), (1, .int a1), (2, .int a2)] := hl
  unfold f_X6_spreadLine at h
  refine lv_iconst (v := 0) hx hb dX6_spreadLine_0 (by decide) ?_
  refine lv_istore_n (lv' := [(3, .int 0), (0, .ref a0), (1, .int a1), (2, .int a2)]) hx hb dX6_spreadLine_1 rfl hl (by decide) rfl (fun ls hl => ?_)
  exact L2 F _ _ _ D a1 a2 0 hP hS (lv_sub hl [1, 2, 3, 0] rfl) h

theorem dX6_spreadEdges_0 : decode cX6_spreadEdges 0 = .ok (.aload_n 0, 1) := by decide +kernel
theorem dX6_spreadEdges_1 : decode cX6_spreadEdges 1 = .ok (.getfield 28, 3) := by decide +kernel
theorem dX6_spreadEdges_4 : decode cX6_spreadEdges 4 = .ok (.invokevirtual 277, 3) := by decide +kernel
theorem dX6_spreadEdges_7 : decode cX6_spreadEdges 7 = .ok (.iconst 0, 1) := by decide +kernel
theorem dX6_spreadEdges_8 : decode cX6_spreadEdges 8 = .ok (.istore_n 1, 1) := by decide +kernel
theorem dX6_spreadEdges_9 : decode cX6_spreadEdges 9 = .ok (.iload_n 1, 1) := by decide +kernel
theorem dX6_spreadEdges_10 : decode cX6_spreadEdges 10 = .ok (.aload_n 0, 1) := by decide +kernel
theorem dX6_spreadEdges_11 : decode cX6_spreadEdges 11 = .ok (.getfield 12, 3) := by decide +kernel
theorem dX6_spreadEdges_14 : decode cX6_spreadEdges 14 = .ok (.invokevirtual 75, 3) := by decide +kernel
theorem dX6_spreadEdges_17 : decode cX6_spreadEdges 17 = .ok (.if_icmp .ge 22, 3) := by decide +kernel
theorem dX6_spreadEdges_20 : decode cX6_spreadEdges 20 = .ok (.aload_n 0, 1) := by decide +kernel
theorem dX6_spreadEdges_21 : decode cX6_spreadEdges 21 = .ok (.aload_n 0, 1) := by decide +kernel
theorem dX6_spreadEdges_22 : decode cX6_spreadEdges 22 = .ok (.getfield 51, 3) := by decide +kernel
theorem dX6_spreadEdges_25 : decode cX6_spreadEdges 25 = .ok (.iload_n 1, 1) := by decide +kernel
theorem dX6_spreadEdges_26 : decode cX6_spreadEdges 26 = .ok (.invokevirtual 140, 3) := by decide +kernel
theorem dX6_spreadEdges_29 : decode cX6_spreadEdges 29 = .ok (.iconst 1, 1) := by decide +kernel
theorem dX6_spreadEdges_30 : decode cX6_spreadEdges 30 = .ok (.invokevirtual 280, 3) := by decide +kernel
theorem dX6_spreadEdges_33 : decode cX6_spreadEdges 33 = .ok (.iinc 1 1, 3) := by decide +kernel
theorem dX6_spreadEdges_36 : decode cX6_spreadEdges 36 = .ok (.goto (-27), 3) := by decide +kernel
theorem dX6_spreadEdges_39 : decode cX6_spreadEdges 39 = .ok (.iconst 0, 1) := by decide +kernel
theorem dX6_spreadEdges_40 : decode cX6_spreadEdges 40 = .ok (.istore_n 1, 1) := by decide +kernel
theorem dX6_spreadEdges_41 : decode cX6_spreadEdges 41 = .ok (.iload_n 1, 1) := by decide +kernel
theorem dX6_spreadEdges_42 : decode cX6_spreadEdges 42 = .ok (.aload_n 0, 1) := by decide +kernel
theorem dX6_spreadEdges_43 : decode cX6_spreadEdges 43 = .ok (.getfield 12, 3) := by decide +kernel
theorem dX6_spreadEdges_46 : decode cX6_spreadEdges 46 = .ok (.invokevirtual 75, 3) := by decide +kernel
theorem dX6_spreadEdges_49 : decode cX6_spreadEdges 49 = .ok (.if_icmp .ge 22, 3) := by decide +kernel
theorem dX6_spreadEdges_52 : decode cX6_spreadEdges 52 = .ok (.aload_n 0, 1) := by decide +kernel
theorem dX6_spreadEdges_53 : decode cX6_spreadEdges 53 = .ok (.aload_n 0, 1) := by decide +kernel
theorem dX6_spreadEdges_54 : decode cX6_spreadEdges 54 = .ok (.getfield 51, 3) := by decide +kernel
theorem dX6_spreadEdges_57 : decode cX6_spreadEdges 57 = .ok (.iload_n 1, 1) := by decide +kernel
theorem dX6_spreadEdges_58 : decode cX6_spreadEdges 58 = .ok (.invokevirtual 140, 3) := by decide +kernel
theorem dX6_spreadEdges_61 : decode cX6_spreadEdges 61 = .ok (.iconst 0, 1) := by decide +kernel
theorem dX6_spreadEdges_62 : decode cX6_spreadEdges 62 = .ok (.invokevirtual 280, 3) := by decide +kernel
theorem dX6_spreadEdges_65 : decode cX6_spreadEdges 65 = .ok (.iinc 1 1, 3) := by decide +kernel
theorem dX6_spreadEdges_68 : decode cX6_spreadEdges 68 = .ok (.goto (-27), 3) := by decide +kernel
theorem dX6_spreadEdges_71 : decode cX6_spreadEdges 71 = .ok (.return_, 1) := by decide +kernel
def f_X6_spreadEdges_L41 (F : Nat) (S : CS) (a0 : Nat) : Nat → CD → Int32 → Option CD
  | 0, _, _ => none
  | n41 + 1, D, x1 => ckK S a0 6 <| cal (S.2.2.1 a0 0) fun p2 => ckK S p2 7 <| cal (f_Jx4a65c_size_8abf5 F S D p2) fun t6 => (if t6 ≤ x1 then some D else cal (S.2.2.1 a0 5) fun p8 => ckK S p8 3 <| cal (f_X3_get F S D p8 x1) fun t12 => cal (f_X6_spreadLine F S D a0 t12 0) fun D14 => (f_X6_spreadEdges_L41 F S a0 n41) D14 (x1 + 1))
def f_X6_spreadEdges_L9 (F : Nat) (S : CS) (a0 : Nat) : Nat → CD → Int32 → Option CD
  | 0, _, _ => none
  | n9 + 1, D, x1 => ckK S a0 6 <| cal (S.2.2.1 a0 0) fun p2 => ckK S p2 7 <| cal (f_Jx4a65c_size_8abf5 F S D p2) fun t6 => (if t6 ≤ x1 then f_X6_spreadEdges_L41 F S a0 F D 0 else cal (S.2.2.1 a0 5) fun p8 => ckK S p8 3 <| cal (f_X3_get F S D p8 x1) fun t12 => cal (f_X6_spreadLine F S D a0 t12 1) fun D14 => (f_X6_spreadEdges_L9 F S a0 n9) D14 (x1 + 1))
def f_X6_spreadEdges (F : Nat) (S : CS) (D : CD) (a0 : Nat) : Option CD := ckK S a0 6 <| cal (S.2.2.1 a0 2) fun p2 => ckK S p2 5 <| cal (f_X5_resetSides F S D p2) fun D6 => f_X6_spreadEdges_L9 F S a0 F D6 0
set_option maxRecDepth 100000 in
set_option maxHeartbeats 4000000 in
theorem m_X6_spreadEdges (l : Launch) (G : cG) (F : Nat) (S : CS) (D D2 : CD) (a0 : Nat) (h : f_X6_spreadEdges F S D a0 = some D2) : cMV l yX6_spreadEdges vX6_spreadEdges ({ frames := 3, cells := 0, slots := 0, locals := 68 }) G S [.ref a0] D D2 := by
  refine cBodyV (cc := cX6_spreadEdges) (maxL := 2) (ret := none) (own := RX6) (by decide) rfl rfl ?_
  intro sz p e s m below meth c hC hP
  have hC0 := hC
  obtain ⟨hx, hb, -, hts, hown, -, hml, -, -, -⟩ := hC0
  have hS : va_S (cA G S sz) s.heap s.heap [] := va_S.rf
  have hin_X6 : ∀ w ∈ wsX60, w ∈ vX6_spreadEdges := fun w h => List.mem_cons_of_mem _ (hWC6 w h)
  have fl_X6_corners := hts _ (List.mem_cons_of_mem _ wc_74)
  have fl_X6_lines := hts _ (List.mem_cons_of_mem _ wc_3)
  have fl_X6_bySlope := hts _ (List.mem_cons_of_mem _ wc_258)
  have L41 : ∀ (n41 : Nat) (H : Heap) (locs : List Loc) (ls : Array Slot) (D : CD) (x1 : Int32), va_P G.1 vwCl (cW G S D) H → va_S (cA G S sz) s.heap H locs → lv_has ls 2 [(0, .ref a0), (1, .int x1)] → f_X6_spreadEdges_L41 F S a0 n41 D x1 = some D2 → W p l e (headSpec vX6_spreadEdges ({ frames := 3, cells := 0, slots := 0, locals := 68 })).room s m ([.ref a0] : List Value).toArray below meth c H locs 0 0 (cQV below G S D2 sz ([.ref a0] : List Value).toArray s) (F0 m 41 ls []) := by
    intro n41
    induction n41 with
    | zero =>
      intro H locs ls D x1 hP hS hl h
      rw [f_X6_spreadEdges_L41] at h; cases h
    | succ n41 ih41 =>
      intro H locs ls D x1 hP hS hl h
      rw [f_X6_spreadEdges_L41] at h
      refine lv_iload_n hx hb dX6_spreadEdges_41 rfl (lv_at hl 1 rfl) ?_
      refine lv_aload_n hx hb dX6_spreadEdges_42 rfl (lv_at hl 0 rfl) ?_
      obtain ⟨z1, h⟩ := ckK_el h
      obtain ⟨p2, e3, h⟩ := cal_el h
      refine c_get (C := RX6) (T := TX6) (N := 8) (ref := "SegmentMap") (ci := 7) (v := .ref p2) hC hin_X6 hP z1.1 (cE_6 z1.2) rfl 0 (by decide) fl_X6_lines rfl (by show some (va_rf (S.2.2.1 a0 0)) = _; rw [e3]; rfl) dX6_spreadEdges_43 ?_
      obtain ⟨z4, h⟩ := ckK_el h
      obtain ⟨t6, e5, h⟩ := cal_el h
      refine c_VI (As := []) (rest := [.int x1]) hC hP hS z4.1 (cE_7 z4.2) (C := RJx4a65c) (T := TJx4a65c) (N := 3) rfl (m_Jx4a65c_size_8abf5 l G F S D p2 t6 e5) (cwV 0 hts (gWC wc_4 wc_5 wc_6 wc_7 wc_0) rfl rfl rfl (by decide +kernel) ⟨Nat.le_of_ble_eq_true rfl, Nat.le_of_ble_eq_true rfl⟩) rfl hl.1 rfl (Nat.le_of_ble_eq_true rfl) dX6_spreadEdges_46 (fun H locs hP hS => ?_)
      refine lv_icmp_ge (tgt := 71) hx hb dX6_spreadEdges_49 (by decide) (fun u7 => ?_) (fun u7 => ?_)
      · have h := ite_t u7 h
        cases h
        exact c_vret hC hP hS dX6_spreadEdges_71
      · have h := ite_f u7 h
        refine lv_aload_n hx hb dX6_spreadEdges_52 rfl (lv_at hl 0 rfl) ?_
        refine lv_aload_n hx hb dX6_spreadEdges_53 rfl (lv_at hl 0 rfl) ?_
        obtain ⟨p8, e9, h⟩ := cal_el h
        refine c_get (C := RX6) (T := TX6) (N := 8) (ref := "SegmentMap") (ci := 7) (v := .ref p8) hC hin_X6 hP z1.1 (cE_6 z1.2) rfl 5 (by decide) fl_X6_bySlope rfl (by show some (va_rf (S.2.2.1 a0 5)) = _; rw [e9]; rfl) dX6_spreadEdges_54 ?_
        refine lv_iload_n hx hb dX6_spreadEdges_57 rfl (lv_at hl 1 rfl) ?_
        obtain ⟨z10, h⟩ := ckK_el h
        obtain ⟨t12, e11, h⟩ := cal_el h
        refine c_VI (As := [.int x1]) (rest := [.ref a0]) hC hP hS z10.1 (cE_3 z10.2) (C := RX3) (T := TX3) (N := 1) rfl (m_X3_get l G F S D p8 x1 t12 e11) (cwV 1 hts (gWC wc_99 wc_100 wc_101 wc_102 wc_96) rfl rfl rfl (by decide +kernel) ⟨Nat.le_of_ble_eq_true rfl, Nat.le_of_ble_eq_true rfl⟩) rfl hl.1 rfl (Nat.le_of_ble_eq_true rfl) dX6_spreadEdges_58 (fun H locs hP hS => ?_)
        refine lv_iconst (v := 0) hx hb dX6_spreadEdges_61 (by decide) ?_
        obtain ⟨D14, e13, h⟩ := cal_el h
        refine c_VV (As := [.int t12, .int 0]) (rest := []) hC hP hS z1.1 (cE_6 z1.2) (C := RX6) (T := TX6) (N := 8) rfl (m_X6_spreadLine l G F S D D14 a0 t12 0 e13) (cwV 2 hts (gWC wc_275 wc_276 wc_277 wc_66 wc_267) rfl rfl rfl (by decide +kernel) ⟨Nat.le_of_ble_eq_true rfl, Nat.le_of_ble_eq_true rfl⟩) rfl hl.1 rfl (Nat.le_of_ble_eq_true rfl) dX6_spreadEdges_62 (fun H locs hP hS => ?_)
        refine lv_iinc (v := x1 + 1) (lv' := [(1, .int (x1 + 1)), (0, .ref a0)]) hx hb dX6_spreadEdges_65 hl (k := 1) rfl rfl (by decide) rfl (fun ls hl => ?_)
        refine lv_goto (tgt := 41) hx hb dX6_spreadEdges_68 (by decide) ?_
        exact ih41 _ _ _ D14 (x1 + 1) hP hS (lv_sub hl [1, 0] rfl) h
  have L9 : ∀ (n9 : Nat) (H : Heap) (locs : List Loc) (ls : Array Slot) (D : CD) (x1 : Int32), va_P G.1 vwCl (cW G S D) H → va_S (cA G S sz) s.heap H locs → lv_has ls 2 [(0, .ref a0), (1, .int x1)] → f_X6_spreadEdges_L9 F S a0 n9 D x1 = some D2 → W p l e (headSpec vX6_spreadEdges ({ frames := 3, cells := 0, slots := 0, locals := 68 })).room s m ([.ref a0] : List Value).toArray below meth c H locs 0 0 (cQV below G S D2 sz ([.ref a0] : List Value).toArray s) (F0 m 9 ls []) := by
    intro n9
    induction n9 with
    | zero =>
      intro H locs ls D x1 hP hS hl h
      rw [f_X6_spreadEdges_L9] at h; cases h
    | succ n9 ih9 =>
      intro H locs ls D x1 hP hS hl h
      rw [f_X6_spreadEdges_L9] at h
      refine lv_iload_n hx hb dX6_spreadEdges_9 rfl (lv_at hl 1 rfl) ?_
      refine lv_aload_n hx hb dX6_spreadEdges_10 rfl (lv_at hl 0 rfl) ?_
      obtain ⟨z1, h⟩ := ckK_el h
      obtain ⟨p2, e3, h⟩ := cal_el h
      refine c_get (C := RX6) (T := TX6) (N := 8) (ref := "SegmentMap") (ci := 7) (v := .ref p2) hC hin_X6 hP z1.1 (cE_6 z1.2) rfl 0 (by decide) fl_X6_lines rfl (by show some (va_rf (S.2.2.1 a0 0)) = _; rw [e3]; rfl) dX6_spreadEdges_11 ?_
      obtain ⟨z4, h⟩ := ckK_el h
      obtain ⟨t6, e5, h⟩ := cal_el h
      refine c_VI (As := []) (rest := [.int x1]) hC hP hS z4.1 (cE_7 z4.2) (C := RJx4a65c) (T := TJx4a65c) (N := 3) rfl (m_Jx4a65c_size_8abf5 l G F S D p2 t6 e5) (cwV 0 hts (gWC wc_4 wc_5 wc_6 wc_7 wc_0) rfl rfl rfl (by decide +kernel) ⟨Nat.le_of_ble_eq_true rfl, Nat.le_of_ble_eq_true rfl⟩) rfl hl.1 rfl (Nat.le_of_ble_eq_true rfl) dX6_spreadEdges_14 (fun H locs hP hS => ?_)
      refine lv_icmp_ge (tgt := 39) hx hb dX6_spreadEdges_17 (by decide) (fun u7 => ?_) (fun u7 => ?_)
      · have h := ite_t u7 h
        refine lv_iconst (v := 0) hx hb dX6_spreadEdges_39 (by decide) ?_
        refine lv_istore_n (lv' := [(1, .int 0), (0, .ref a0)]) hx hb dX6_spreadEdges_40 rfl hl (by decide) rfl (fun ls hl => ?_)
        exact L41 F _ _ _ D 0 hP hS (lv_sub hl [1, 0] rfl) h
      · have h := ite_f u7 h
        refine lv_aload_n hx hb dX6_spreadEdges_20 rfl (lv_at hl 0 rfl) ?_
        refine lv_aload_n hx hb dX6_spreadEdges_21 rfl (lv_at hl 0 rfl) ?_
        obtain ⟨p8, e9, h⟩ := cal_el h
        refine c_get (C := RX6) (T := TX6) (N := 8) (ref := "SegmentMap") (ci := 7) (v := .ref p8) hC hin_X6 hP z1.1 (cE_6 z1.2) rfl 5 (by decide) fl_X6_bySlope rfl (by show some (va_rf (S.2.2.1 a0 5)) = _; rw [e9]; rfl) dX6_spreadEdges_22 ?_
        refine lv_iload_n hx hb dX6_spreadEdges_25 rfl (lv_at hl 1 rfl) ?_
        obtain ⟨z10, h⟩ := ckK_el h
        obtain ⟨t12, e11, h⟩ := cal_el h
        refine c_VI (As := [.int x1]) (rest := [.ref a0]) hC hP hS z10.1 (cE_3 z10.2) (C := RX3) (T := TX3) (N := 1) rfl (m_X3_get l G F S D p8 x1 t12 e11) (cwV 1 hts (gWC wc_99 wc_100 wc_101 wc_102 wc_96) rfl rfl rfl (by decide +kernel) ⟨Nat.le_of_ble_eq_true rfl, Nat.le_of_ble_eq_true rfl⟩) rfl hl.1 rfl (Nat.le_of_ble_eq_true rfl) dX6_spreadEdges_26 (fun H locs hP hS => ?_)
        refine lv_iconst (v := 1) hx hb dX6_spreadEdges_29 (by decide) ?_
        obtain ⟨D14, e13, h⟩ := cal_el h
        refine c_VV (As := [.int t12, .int 1]) (rest := []) hC hP hS z1.1 (cE_6 z1.2) (C := RX6) (T := TX6) (N := 8) rfl (m_X6_spreadLine l G F S D D14 a0 t12 1 e13) (cwV 2 hts (gWC wc_275 wc_276 wc_277 wc_66 wc_267) rfl rfl rfl (by decide +kernel) ⟨Nat.le_of_ble_eq_true rfl, Nat.le_of_ble_eq_true rfl⟩) rfl hl.1 rfl (Nat.le_of_ble_eq_true rfl) dX6_spreadEdges_30 (fun H locs hP hS => ?_)
        refine lv_iinc (v := x1 + 1) (lv' := [(1, .int (x1 + 1)), (0, .ref a0)]) hx hb dX6_spreadEdges_33 hl (k := 1) rfl rfl (by decide) rfl (fun ls hl => ?_)
        refine lv_goto (tgt := 9) hx hb dX6_spreadEdges_36 (by decide) ?_
        exact ih9 _ _ _ D14 (x1 + 1) hP hS (lv_sub hl [1, 0] rfl) h
  refine m_entry (Nat.le_of_ble_eq_true rfl) (fun ls hl => ?_)
  have hl : lv_has ls 2 [(0, .ref a0)] := hl
  unfold f_X6_spreadEdges at h
  refine lv_aload_n hx hb dX6_spreadEdges_0 rfl (lv_at hl 0 rfl) ?_
  obtain ⟨z1, h⟩ := ckK_el h
  obtain ⟨p2, e3, h⟩ := cal_el h
  refine c_get (C := RX6) (T := TX6) (N := 8) (ref := "SegmentMap") (ci := 7) (v := .ref p2) hC hin_X6 hP z1.1 (cE_6 z1.2) rfl 2 (by decide) fl_X6_corners rfl (by show some (va_rf (S.2.2.1 a0 2)) = _; rw [e3]; rfl) dX6_spreadEdges_1 ?_
  obtain ⟨z4, h⟩ := ckK_el h
  obtain ⟨D6, e5, h⟩ := cal_el h
  refine c_VV (As := []) (rest := []) hC hP hS z4.1 (cE_5 z4.2) (C := RX5) (T := TX5) (N := 7) rfl (m_X5_resetSides l G F S D D6 p2 e5) (cwV 0 hts (gWC wc_272 wc_273 wc_274 wc_92 wc_260) rfl rfl rfl (by decide +kernel) ⟨Nat.le_of_ble_eq_true rfl, Nat.le_of_ble_eq_true rfl⟩) rfl hl.1 rfl (Nat.le_of_ble_eq_true rfl) dX6_spreadEdges_4 (fun H locs hP hS => ?_)
  refine lv_iconst (v := 0) hx hb dX6_spreadEdges_7 (by decide) ?_
  refine lv_istore_n (lv' := [(1, .int 0), (0, .ref a0)]) hx hb dX6_spreadEdges_8 rfl hl (by decide) rfl (fun ls hl => ?_)
  exact L9 F _ _ _ D6 0 hP hS (lv_sub hl [1, 0] rfl) h

theorem dX5_join_0 : decode cX5_join 0 = .ok (.iconst 0, 1) := by decide +kernel
theorem dX5_join_1 : decode cX5_join 1 = .ok (.istore_n 3, 1) := by decide +kernel
theorem dX5_join_2 : decode cX5_join 2 = .ok (.iload_n 3, 1) := by decide +kernel
theorem dX5_join_3 : decode cX5_join 3 = .ok (.aload_n 0, 1) := by decide +kernel
theorem dX5_join_4 : decode cX5_join 4 = .ok (.getfield 40, 3) := by decide +kernel
theorem dX5_join_7 : decode cX5_join 7 = .ok (.if_icmp .ge 30, 3) := by decide +kernel
theorem dX5_join_10 : decode cX5_join 10 = .ok (.aload_n 0, 1) := by decide +kernel
theorem dX5_join_11 : decode cX5_join 11 = .ok (.getfield 37, 3) := by decide +kernel
theorem dX5_join_14 : decode cX5_join 14 = .ok (.iload_n 3, 1) := by decide +kernel
theorem dX5_join_15 : decode cX5_join 15 = .ok (.invokevirtual 64, 3) := by decide +kernel
theorem dX5_join_18 : decode cX5_join 18 = .ok (.iload_n 2, 1) := by decide +kernel
theorem dX5_join_19 : decode cX5_join 19 = .ok (.if_icmp .ne 12, 3) := by decide +kernel
theorem dX5_join_22 : decode cX5_join 22 = .ok (.aload_n 0, 1) := by decide +kernel
theorem dX5_join_23 : decode cX5_join 23 = .ok (.getfield 37, 3) := by decide +kernel
theorem dX5_join_26 : decode cX5_join 26 = .ok (.iload_n 3, 1) := by decide +kernel
theorem dX5_join_27 : decode cX5_join 27 = .ok (.iload_n 1, 1) := by decide +kernel
theorem dX5_join_28 : decode cX5_join 28 = .ok (.invokevirtual 60, 3) := by decide +kernel
theorem dX5_join_31 : decode cX5_join 31 = .ok (.iinc 3 1, 3) := by decide +kernel
theorem dX5_join_34 : decode cX5_join 34 = .ok (.goto (-32), 3) := by decide +kernel
theorem dX5_join_37 : decode cX5_join 37 = .ok (.return_, 1) := by decide +kernel
def f_X5_join_b31 (F : Nat) (S : CS) (a0 : Nat) (k2 : CD → Int32 → Int32 → Int32 → Option CD) (D : CD) (x1 : Int32) (x2 : Int32) (x3 : Int32) : Option CD := k2 D x1 x2 (x3 + 1)
def f_X5_join_L2 (F : Nat) (S : CS) (a0 : Nat) : Nat → CD → Int32 → Int32 → Int32 → Option CD
  | 0, _, _, _, _ => none
  | n2 + 1, D, x1, x2, x3 => ckK S a0 5 <| (if (D.1 a0 6) ≤ x3 then some D else cal (S.2.2.1 a0 5) fun p3 => ckK S p3 3 <| cal (f_X3_get F S D p3 x3) fun t7 => (if t7 = x2 then cal (S.2.2.1 a0 5) fun p9 => ckK S p9 3 <| cal (f_X3_set F S D p9 x3 x1) fun D13 => f_X5_join_b31 F S a0 ((f_X5_join_L2 F S a0 n2)) D13 x1 x2 x3 else f_X5_join_b31 F S a0 ((f_X5_join_L2 F S a0 n2)) D x1 x2 x3))
def f_X5_join (F : Nat) (S : CS) (D : CD) (a0 : Nat) (a1 : Int32) (a2 : Int32) : Option CD := f_X5_join_L2 F S a0 F D a1 a2 0
set_option maxRecDepth 100000 in
set_option maxHeartbeats 4000000 in
theorem m_X5_join (l : Launch) (G : cG) (F : Nat) (S : CS) (D D2 : CD) (a0 : Nat) (a1 : Int32) (a2 : Int32) (h : f_X5_join F S D a0 a1 a2 = some D2) : cMV l yX5_join vX5_join ({ frames := 1, cells := 0, slots := 0, locals := 22 }) G S [.ref a0, .int a1, .int a2] D D2 := by
  refine cBodyV (cc := cX5_join) (maxL := 4) (ret := none) (own := RX5) (by decide) rfl rfl ?_
  intro sz p e s m below meth c hC hP
  have hC0 := hC
  obtain ⟨hx, hb, -, hts, hown, -, hml, -, -, -⟩ := hC0
  have hS : va_S (cA G S sz) s.heap s.heap [] := va_S.rf
  have hin_X5 : ∀ w ∈ wsX50, w ∈ vX5_join := fun w h => List.mem_cons_of_mem _ (hWC5 w h)
  have fl_X5_count := hts _ (List.mem_cons_of_mem _ wc_198)
  have fl_X5_root := hts _ (List.mem_cons_of_mem _ wc_264)
  have L2 : ∀ (n2 : Nat) (H : Heap) (locs : List Loc) (ls : Array Slot) (D : CD) (x1 : Int32) (x2 : Int32) (x3 : Int32), va_P G.1 vwCl (cW G S D) H → va_S (cA G S sz) s.heap H locs → lv_has ls 4 [(0, .ref a0), (1, .int x1), (2, .int x2), (3, .int x3)] → f_X5_join_L2 F S a0 n2 D x1 x2 x3 = some D2 → W p l e (headSpec vX5_join ({ frames := 1, cells := 0, slots := 0, locals := 22 })).room s m ([.ref a0, .int a1, .int a2] : List Value).toArray below meth c H locs 0 0 (cQV below G S D2 sz ([.ref a0, .int a1, .int a2] : List Value).toArray s) (F0 m 2 ls []) := by
    intro n2
    induction n2 with
    | zero =>
      intro H locs ls D x1 x2 x3 hP hS hl h
      rw [f_X5_join_L2] at h; cases h
    | succ n2 ih2 =>
      have b31 : ∀ (H : Heap) (locs : List Loc) (ls : Array Slot) (D : CD) (x1 : Int32) (x2 : Int32) (x3 : Int32), va_P G.1 vwCl (cW G S D) H → va_S (cA G S sz) s.heap H locs → lv_has ls 4 [(0, .ref a0), (1, .int x1), (2, .int x2), (3, .int x3)] → f_X5_join_b31 F S a0 ((f_X5_join_L2 F S a0 n2)) D x1 x2 x3 = some D2 → W p l e (headSpec vX5_join ({ frames := 1, cells := 0, slots := 0, locals := 22 })).room s m ([.ref a0, .int a1, .int a2] : List Value).toArray below meth c H locs 0 0 (cQV below G S D2 sz ([.ref a0, .int a1, .int a2] : List Value).toArray s) (F0 m 31 ls []) := by
        intro H locs ls D x1 x2 x3 hP hS hl h
        unfold f_X5_join_b31 at h
        refine lv_iinc (v := x3 + 1) (lv' := [(3, .int (x3 + 1)), (0, .ref a0), (1, .int x1), (2, .int x2)]) hx hb dX5_join_31 hl (k := 3) rfl rfl (by decide) rfl (fun ls hl => ?_)
        refine lv_goto (tgt := 2) hx hb dX5_join_34 (by decide) ?_
        exact ih2 _ _ _ D x1 x2 (x3 + 1) hP hS (lv_sub hl [1, 2, 3, 0] rfl) h
      intro H locs ls D x1 x2 x3 hP hS hl h
      rw [f_X5_join_L2] at h
      refine lv_iload_n hx hb dX5_join_2 rfl (lv_at hl 3 rfl) ?_
      refine lv_aload_n hx hb dX5_join_3 rfl (lv_at hl 0 rfl) ?_
      obtain ⟨z1, h⟩ := ckK_el h
      refine c_get (C := RX5) (T := TX5) (N := 7) (ref := "SegmentMap$Vertices") (ci := 6) (v := .int (D.1 a0 6)) hC hin_X5 hP z1.1 (cE_5 z1.2) rfl 6 (by decide) fl_X5_count rfl rfl dX5_join_4 ?_
      refine lv_icmp_ge (tgt := 37) hx hb dX5_join_7 (by decide) (fun u2 => ?_) (fun u2 => ?_)
      · have h := ite_t u2 h
        cases h
        exact c_vret hC hP hS dX5_join_37
      · have h := ite_f u2 h
        refine lv_aload_n hx hb dX5_join_10 rfl (lv_at hl 0 rfl) ?_
        obtain ⟨p3, e4, h⟩ := cal_el h
        refine c_get (C := RX5) (T := TX5) (N := 7) (ref := "SegmentMap$Vertices") (ci := 6) (v := .ref p3) hC hin_X5 hP z1.1 (cE_5 z1.2) rfl 5 (by decide) fl_X5_root rfl (by show some (va_rf (S.2.2.1 a0 5)) = _; rw [e4]; rfl) dX5_join_11 ?_
        refine lv_iload_n hx hb dX5_join_14 rfl (lv_at hl 3 rfl) ?_
        obtain ⟨z5, h⟩ := ckK_el h
        obtain ⟨t7, e6, h⟩ := cal_el h
        refine c_VI (As := [.int x3]) (rest := []) hC hP hS z5.1 (cE_3 z5.2) (C := RX3) (T := TX3) (N := 1) rfl (m_X3_get l G F S D p3 x3 t7 e6) (cwV 1 hts (gWC wc_279 wc_100 wc_101 wc_102 wc_96) rfl rfl rfl (by decide +kernel) ⟨Nat.le_of_ble_eq_true rfl, Nat.le_of_ble_eq_true rfl⟩) rfl hl.1 rfl (Nat.le_of_ble_eq_true rfl) dX5_join_15 (fun H locs hP hS => ?_)
        refine lv_iload_n hx hb dX5_join_18 rfl (lv_at hl 2 rfl) ?_
        refine lv_icmp_ne (tgt := 31) hx hb dX5_join_19 (by decide) (fun u8 => ?_) (fun u8 => ?_)
        · have h := ite_f u8 h
          exact b31 _ _ _ D x1 x2 x3 hP hS (lv_sub hl [0, 1, 2, 3] rfl) h
        · have h := ite_t u8 h
          refine lv_aload_n hx hb dX5_join_22 rfl (lv_at hl 0 rfl) ?_
          obtain ⟨p9, e10, h⟩ := cal_el h
          refine c_get (C := RX5) (T := TX5) (N := 7) (ref := "SegmentMap$Vertices") (ci := 6) (v := .ref p9) hC hin_X5 hP z1.1 (cE_5 z1.2) rfl 5 (by decide) fl_X5_root rfl (by show some (va_rf (S.2.2.1 a0 5)) = _; rw [e10]; rfl) dX5_join_23 ?_
          refine lv_iload_n hx hb dX5_join_26 rfl (lv_at hl 3 rfl) ?_
          refine lv_iload_n hx hb dX5_join_27 rfl (lv_at hl 1 rfl) ?_
          obtain ⟨z11, h⟩ := ckK_el h
          obtain ⟨D13, e12, h⟩ := cal_el h
          refine c_VV (As := [.int x3, .int x1]) (rest := []) hC hP hS z11.1 (cE_3 z11.2) (C := RX3) (T := TX3) (N := 1) rfl (m_X3_set l G F S D D13 p9 x3 x1 e12) (cwV 2 hts (gWC wc_265 wc_247 wc_248 wc_102 wc_240) rfl rfl rfl (by decide +kernel) ⟨Nat.le_of_ble_eq_true rfl, Nat.le_of_ble_eq_true rfl⟩) rfl hl.1 rfl (Nat.le_of_ble_eq_true rfl) dX5_join_28 (fun H locs hP hS => ?_)
          exact b31 _ _ _ D13 x1 x2 x3 hP hS (lv_sub hl [0, 1, 2, 3] rfl) h
  refine m_entry (Nat.le_of_ble_eq_true rfl) (fun ls hl => ?_)
  have hl : lv_has ls 4 [(0, .ref a0), (1, .int a1), (2, .int a2)] := hl
  unfold f_X5_join at h
  refine lv_iconst (v := 0) hx hb dX5_join_0 (by decide) ?_
  refine lv_istore_n (lv' := [(3, .int 0), (0, .ref a0), (1, .int a1), (2, .int a2)]) hx hb dX5_join_1 rfl hl (by decide) rfl (fun ls hl => ?_)
  exact L2 F _ _ _ D a1 a2 0 hP hS (lv_sub hl [1, 2, 3, 0] rfl) h

theorem dX6_joinComponents_0 : decode cX6_joinComponents 0 = .ok (.aload_n 0, 1) := by decide +kernel
theorem dX6_joinComponents_1 : decode cX6_joinComponents 1 = .ok (.aload_n 0, 1) := by decide +kernel
theorem dX6_joinComponents_2 : decode cX6_joinComponents 2 = .ok (.getfield 28, 3) := by decide +kernel
theorem dX6_joinComponents_5 : decode cX6_joinComponents 5 = .ok (.getfield 108, 3) := by decide +kernel
theorem dX6_joinComponents_8 : decode cX6_joinComponents 8 = .ok (.putfield 114, 3) := by decide +kernel
theorem dX6_joinComponents_11 : decode cX6_joinComponents 11 = .ok (.iconst 0, 1) := by decide +kernel
theorem dX6_joinComponents_12 : decode cX6_joinComponents 12 = .ok (.istore_n 1, 1) := by decide +kernel
theorem dX6_joinComponents_13 : decode cX6_joinComponents 13 = .ok (.iload_n 1, 1) := by decide +kernel
theorem dX6_joinComponents_14 : decode cX6_joinComponents 14 = .ok (.aload_n 0, 1) := by decide +kernel
theorem dX6_joinComponents_15 : decode cX6_joinComponents 15 = .ok (.getfield 35, 3) := by decide +kernel
theorem dX6_joinComponents_18 : decode cX6_joinComponents 18 = .ok (.getfield 112, 3) := by decide +kernel
theorem dX6_joinComponents_21 : decode cX6_joinComponents 21 = .ok (.if_icmp .ge 85, 3) := by decide +kernel
theorem dX6_joinComponents_24 : decode cX6_joinComponents 24 = .ok (.aload_n 0, 1) := by decide +kernel
theorem dX6_joinComponents_25 : decode cX6_joinComponents 25 = .ok (.getfield 28, 3) := by decide +kernel
theorem dX6_joinComponents_28 : decode cX6_joinComponents 28 = .ok (.getfield 296, 3) := by decide +kernel
theorem dX6_joinComponents_31 : decode cX6_joinComponents 31 = .ok (.aload_n 0, 1) := by decide +kernel
theorem dX6_joinComponents_32 : decode cX6_joinComponents 32 = .ok (.getfield 35, 3) := by decide +kernel
theorem dX6_joinComponents_35 : decode cX6_joinComponents 35 = .ok (.getfield 150, 3) := by decide +kernel
theorem dX6_joinComponents_38 : decode cX6_joinComponents 38 = .ok (.iload_n 1, 1) := by decide +kernel
theorem dX6_joinComponents_39 : decode cX6_joinComponents 39 = .ok (.invokevirtual 140, 3) := by decide +kernel
theorem dX6_joinComponents_42 : decode cX6_joinComponents 42 = .ok (.invokevirtual 140, 3) := by decide +kernel
theorem dX6_joinComponents_45 : decode cX6_joinComponents 45 = .ok (.istore_n 2, 1) := by decide +kernel
theorem dX6_joinComponents_46 : decode cX6_joinComponents 46 = .ok (.aload_n 0, 1) := by decide +kernel
theorem dX6_joinComponents_47 : decode cX6_joinComponents 47 = .ok (.getfield 28, 3) := by decide +kernel
theorem dX6_joinComponents_50 : decode cX6_joinComponents 50 = .ok (.getfield 296, 3) := by decide +kernel
theorem dX6_joinComponents_53 : decode cX6_joinComponents 53 = .ok (.aload_n 0, 1) := by decide +kernel
theorem dX6_joinComponents_54 : decode cX6_joinComponents 54 = .ok (.getfield 35, 3) := by decide +kernel
theorem dX6_joinComponents_57 : decode cX6_joinComponents 57 = .ok (.getfield 153, 3) := by decide +kernel
theorem dX6_joinComponents_60 : decode cX6_joinComponents 60 = .ok (.iload_n 1, 1) := by decide +kernel
theorem dX6_joinComponents_61 : decode cX6_joinComponents 61 = .ok (.invokevirtual 140, 3) := by decide +kernel
theorem dX6_joinComponents_64 : decode cX6_joinComponents 64 = .ok (.invokevirtual 140, 3) := by decide +kernel
theorem dX6_joinComponents_67 : decode cX6_joinComponents 67 = .ok (.istore_n 3, 1) := by decide +kernel
theorem dX6_joinComponents_68 : decode cX6_joinComponents 68 = .ok (.iload_n 2, 1) := by decide +kernel
theorem dX6_joinComponents_69 : decode cX6_joinComponents 69 = .ok (.iload_n 3, 1) := by decide +kernel
theorem dX6_joinComponents_70 : decode cX6_joinComponents 70 = .ok (.if_icmp .eq 30, 3) := by decide +kernel
theorem dX6_joinComponents_73 : decode cX6_joinComponents 73 = .ok (.aload_n 0, 1) := by decide +kernel
theorem dX6_joinComponents_74 : decode cX6_joinComponents 74 = .ok (.getfield 28, 3) := by decide +kernel
theorem dX6_joinComponents_77 : decode cX6_joinComponents 77 = .ok (.iload_n 2, 1) := by decide +kernel
theorem dX6_joinComponents_78 : decode cX6_joinComponents 78 = .ok (.iload_n 3, 1) := by decide +kernel
theorem dX6_joinComponents_79 : decode cX6_joinComponents 79 = .ok (.invokestatic 299, 3) := by decide +kernel
theorem dX6_joinComponents_82 : decode cX6_joinComponents 82 = .ok (.iload_n 2, 1) := by decide +kernel
theorem dX6_joinComponents_83 : decode cX6_joinComponents 83 = .ok (.iload_n 3, 1) := by decide +kernel
theorem dX6_joinComponents_84 : decode cX6_joinComponents 84 = .ok (.invokestatic 304, 3) := by decide +kernel
theorem dX6_joinComponents_87 : decode cX6_joinComponents 87 = .ok (.invokevirtual 307, 3) := by decide +kernel
theorem dX6_joinComponents_90 : decode cX6_joinComponents 90 = .ok (.aload_n 0, 1) := by decide +kernel
theorem dX6_joinComponents_91 : decode cX6_joinComponents 91 = .ok (.dup, 1) := by decide +kernel
theorem dX6_joinComponents_92 : decode cX6_joinComponents 92 = .ok (.getfield 114, 3) := by decide +kernel
theorem dX6_joinComponents_95 : decode cX6_joinComponents 95 = .ok (.iconst 1, 1) := by decide +kernel
theorem dX6_joinComponents_96 : decode cX6_joinComponents 96 = .ok (.isub, 1) := by decide +kernel
theorem dX6_joinComponents_97 : decode cX6_joinComponents 97 = .ok (.putfield 114, 3) := by decide +kernel
theorem dX6_joinComponents_100 : decode cX6_joinComponents 100 = .ok (.iinc 1 1, 3) := by decide +kernel
theorem dX6_joinComponents_103 : decode cX6_joinComponents 103 = .ok (.goto (-90), 3) := by decide +kernel
theorem dX6_joinComponents_106 : decode cX6_joinComponents 106 = .ok (.return_, 1) := by decide +kernel
def f_X6_joinComponents_b100 (F : Nat) (S : CS) (a0 : Nat) (k13 : CD → Int32 → Option CD) (D : CD) (x1 : Int32) : Option CD := k13 D (x1 + 1)
def f_X6_joinComponents_L13 (F : Nat) (S : CS) (a0 : Nat) : Nat → CD → Int32 → Option CD
  | 0, _, _ => none
  | n13 + 1, D, x1 => ckK S a0 6 <| cal (S.2.2.1 a0 3) fun p2 => ckK S p2 0 <| (if (D.1 p2 5) ≤ x1 then some D else cal (S.2.2.1 a0 2) fun p6 => ckK S p6 5 <| cal (S.2.2.1 p6 5) fun p9 => cal (S.2.2.1 a0 3) fun p11 => ckK S p11 0 <| cal (S.2.2.1 p11 1) fun p14 => ckK S p14 3 <| cal (f_X3_get F S D p14 x1) fun t18 => ckK S p9 3 <| cal (f_X3_get F S D p9 t18) fun t21 => cal (S.2.2.1 a0 2) fun p22 => ckK S p22 5 <| cal (S.2.2.1 p22 5) fun p25 => cal (S.2.2.1 a0 3) fun p27 => ckK S p27 0 <| cal (S.2.2.1 p27 2) fun p30 => ckK S p30 3 <| cal (f_X3_get F S D p30 x1) fun t34 => ckK S p25 3 <| cal (f_X3_get F S D p25 t34) fun t37 => (if t21 = t37 then f_X6_joinComponents_b100 F S a0 ((f_X6_joinComponents_L13 F S a0 n13)) D x1 else cal (S.2.2.1 a0 2) fun p39 => ckK S p39 5 <| cal (f_X5_join F S D p39 (if t37 < t21 then t37 else t21) (if t21 < t37 then t37 else t21)) fun D43 => cfW D43 a0 7 ((D43.1 a0 7) - 1) fun D44 => f_X6_joinComponents_b100 F S a0 ((f_X6_joinComponents_L13 F S a0 n13)) D44 x1))
def f_X6_joinComponents (F : Nat) (S : CS) (D : CD) (a0 : Nat) : Option CD := ckK S a0 6 <| cal (S.2.2.1 a0 2) fun p2 => ckK S p2 5 <| cfW D a0 7 (D.1 p2 6) fun D5 => f_X6_joinComponents_L13 F S a0 F D5 0
set_option maxRecDepth 100000 in
set_option maxHeartbeats 4000000 in
theorem m_X6_joinComponents (l : Launch) (G : cG) (F : Nat) (S : CS) (D D2 : CD) (a0 : Nat) (h : f_X6_joinComponents F S D a0 = some D2) : cMV l yX6_joinComponents vX6_joinComponents ({ frames := 2, cells := 0, slots := 0, locals := 45 }) G S [.ref a0] D D2 := by
  refine cBodyV (cc := cX6_joinComponents) (maxL := 4) (ret := none) (own := RX6) (by decide) rfl rfl ?_
  intro sz p e s m below meth c hC hP
  have hC0 := hC
  obtain ⟨hx, hb, -, hts, hown, -, hml, -, -, -⟩ := hC0
  have hS : va_S (cA G S sz) s.heap s.heap [] := va_S.rf
  have hin_X0 : ∀ w ∈ wsX00, w ∈ vX6_joinComponents := fun w h => List.mem_cons_of_mem _ (hWC0 w h)
  have hin_X5 : ∀ w ∈ wsX50, w ∈ vX6_joinComponents := fun w h => List.mem_cons_of_mem _ (hWC5 w h)
  have hin_X6 : ∀ w ∈ wsX60, w ∈ vX6_joinComponents := fun w h => List.mem_cons_of_mem _ (hWC6 w h)
  have fl_X6_corners := hts _ (List.mem_cons_of_mem _ wc_74)
  have fl_X6_componentCount := hts _ (List.mem_cons_of_mem _ wc_80)
  have fl_X6_pieces := hts _ (List.mem_cons_of_mem _ wc_76)
  have L13 : ∀ (n13 : Nat) (H : Heap) (locs : List Loc) (ls : Array Slot) (D : CD) (x1 : Int32), va_P G.1 vwCl (cW G S D) H → va_S (cA G S sz) s.heap H locs → lv_has ls 4 [(0, .ref a0), (1, .int x1)] → f_X6_joinComponents_L13 F S a0 n13 D x1 = some D2 → W p l e (headSpec vX6_joinComponents ({ frames := 2, cells := 0, slots := 0, locals := 45 })).room s m ([.ref a0] : List Value).toArray below meth c H locs 0 0 (cQV below G S D2 sz ([.ref a0] : List Value).toArray s) (F0 m 13 ls []) := by
    intro n13
    induction n13 with
    | zero =>
      intro H locs ls D x1 hP hS hl h
      rw [f_X6_joinComponents_L13] at h; cases h
    | succ n13 ih13 =>
      have b100 : ∀ (H : Heap) (locs : List Loc) (ls : Array Slot) (D : CD) (x1 : Int32), va_P G.1 vwCl (cW G S D) H → va_S (cA G S sz) s.heap H locs → lv_has ls 4 [(0, .ref a0), (1, .int x1)] → f_X6_joinComponents_b100 F S a0 ((f_X6_joinComponents_L13 F S a0 n13)) D x1 = some D2 → W p l e (headSpec vX6_joinComponents ({ frames := 2, cells := 0, slots := 0, locals := 45 })).room s m ([.ref a0] : List Value).toArray below meth c H locs 0 0 (cQV below G S D2 sz ([.ref a0] : List Value).toArray s) (F0 m 100 ls []) := by
        intro H locs ls D x1 hP hS hl h
        unfold f_X6_joinComponents_b100 at h
        refine lv_iinc (v := x1 + 1) (lv' := [(1, .int (x1 + 1)), (0, .ref a0)]) hx hb dX6_joinComponents_100 hl (k := 1) rfl rfl (by decide) rfl (fun ls hl => ?_)
        refine lv_goto (tgt := 13) hx hb dX6_joinComponents_103 (by decide) ?_
        exact ih13 _ _ _ D (x1 + 1) hP hS (lv_sub hl [1, 0] rfl) h
      intro H locs ls D x1 hP hS hl h
      rw [f_X6_joinComponents_L13] at h
      refine lv_iload_n hx hb dX6_joinComponents_13 rfl (lv_at hl 1 rfl) ?_
      refine lv_aload_n hx hb dX6_joinComponents_14 rfl (lv_at hl 0 rfl) ?_
      obtain ⟨z1, h⟩ := ckK_el h
      obtain ⟨p2, e3, h⟩ := cal_el h
      refine c_get (C := RX6) (T := TX6) (N := 8) (ref := "SegmentMap") (ci := 7) (v := .ref p2) hC hin_X6 hP z1.1 (cE_6 z1.2) rfl 3 (by decide) fl_X6_pieces rfl (by show some (va_rf (S.2.2.1 a0 3)) = _; rw [e3]; rfl) dX6_joinComponents_15 ?_
      obtain ⟨z4, h⟩ := ckK_el h
      refine c_getN (C := RX0) (T := TX0) (N := 6) (ref := "SegmentMap$Edges") (ci := 1) (v := .int (D.1 p2 5)) hC hin_X0 hP z4.1 (cE_0 z4.2) rfl 5 (by decide) (nm := "count") (ds := "I") (List.mem_of_getElem? (i := 1) rfl) rfl rfl dX6_joinComponents_18 ?_
      refine lv_icmp_ge (tgt := 106) hx hb dX6_joinComponents_21 (by decide) (fun u5 => ?_) (fun u5 => ?_)
      · have h := ite_t u5 h
        cases h
        exact c_vret hC hP hS dX6_joinComponents_106
      · have h := ite_f u5 h
        refine lv_aload_n hx hb dX6_joinComponents_24 rfl (lv_at hl 0 rfl) ?_
        obtain ⟨p6, e7, h⟩ := cal_el h
        refine c_get (C := RX6) (T := TX6) (N := 8) (ref := "SegmentMap") (ci := 7) (v := .ref p6) hC hin_X6 hP z1.1 (cE_6 z1.2) rfl 2 (by decide) fl_X6_corners rfl (by show some (va_rf (S.2.2.1 a0 2)) = _; rw [e7]; rfl) dX6_joinComponents_25 ?_
        obtain ⟨z8, h⟩ := ckK_el h
        obtain ⟨p9, e10, h⟩ := cal_el h
        refine c_getN (C := RX5) (T := TX5) (N := 7) (ref := "SegmentMap$Vertices") (ci := 6) (v := .ref p9) hC hin_X5 hP z8.1 (cE_5 z8.2) rfl 5 (by decide) (nm := "root") (ds := "LSegmentMap$Row;") (List.mem_of_getElem? (i := 21) rfl) rfl (by show some (va_rf (S.2.2.1 p6 5)) = _; rw [e10]; rfl) dX6_joinComponents_28 ?_
        refine lv_aload_n hx hb dX6_joinComponents_31 rfl (lv_at hl 0 rfl) ?_
        obtain ⟨p11, e12, h⟩ := cal_el h
        refine c_get (C := RX6) (T := TX6) (N := 8) (ref := "SegmentMap") (ci := 7) (v := .ref p11) hC hin_X6 hP z1.1 (cE_6 z1.2) rfl 3 (by decide) fl_X6_pieces rfl (by show some (va_rf (S.2.2.1 a0 3)) = _; rw [e12]; rfl) dX6_joinComponents_32 ?_
        obtain ⟨z13, h⟩ := ckK_el h
        obtain ⟨p14, e15, h⟩ := cal_el h
        refine c_getN (C := RX0) (T := TX0) (N := 6) (ref := "SegmentMap$Edges") (ci := 1) (v := .ref p14) hC hin_X0 hP z13.1 (cE_0 z13.2) rfl 1 (by decide) (nm := "start") (ds := "LSegmentMap$Row;") (List.mem_of_getElem? (i := 9) rfl) rfl (by show some (va_rf (S.2.2.1 p11 1)) = _; rw [e15]; rfl) dX6_joinComponents_35 ?_
        refine lv_iload_n hx hb dX6_joinComponents_38 rfl (lv_at hl 1 rfl) ?_
        obtain ⟨z16, h⟩ := ckK_el h
        obtain ⟨t18, e17, h⟩ := cal_el h
        refine c_VI (As := [.int x1]) (rest := [.ref p9]) hC hP hS z16.1 (cE_3 z16.2) (C := RX3) (T := TX3) (N := 1) rfl (m_X3_get l G F S D p14 x1 t18 e17) (cwV 1 hts (gWC wc_99 wc_100 wc_101 wc_102 wc_96) rfl rfl rfl (by decide +kernel) ⟨Nat.le_of_ble_eq_true rfl, Nat.le_of_ble_eq_true rfl⟩) rfl hl.1 rfl (Nat.le_of_ble_eq_true rfl) dX6_joinComponents_39 (fun H locs hP hS => ?_)
        obtain ⟨z19, h⟩ := ckK_el h
        obtain ⟨t21, e20, h⟩ := cal_el h
        refine c_VI (As := [.int t18]) (rest := []) hC hP hS z19.1 (cE_3 z19.2) (C := RX3) (T := TX3) (N := 1) rfl (m_X3_get l G F S D p9 t18 t21 e20) (cwV 1 hts (gWC wc_99 wc_100 wc_101 wc_102 wc_96) rfl rfl rfl (by decide +kernel) ⟨Nat.le_of_ble_eq_true rfl, Nat.le_of_ble_eq_true rfl⟩) rfl hl.1 rfl (Nat.le_of_ble_eq_true rfl) dX6_joinComponents_42 (fun H locs hP hS => ?_)
        refine lv_istore_n (lv' := [(2, .int t21), (0, .ref a0), (1, .int x1)]) hx hb dX6_joinComponents_45 rfl hl (by decide) rfl (fun ls hl => ?_)
        refine lv_aload_n hx hb dX6_joinComponents_46 rfl (lv_at hl 1 rfl) ?_
        obtain ⟨p22, e23, h⟩ := cal_el h
        refine c_get (C := RX6) (T := TX6) (N := 8) (ref := "SegmentMap") (ci := 7) (v := .ref p22) hC hin_X6 hP z1.1 (cE_6 z1.2) rfl 2 (by decide) fl_X6_corners rfl (by show some (va_rf (S.2.2.1 a0 2)) = _; rw [e23]; rfl) dX6_joinComponents_47 ?_
        obtain ⟨z24, h⟩ := ckK_el h
        obtain ⟨p25, e26, h⟩ := cal_el h
        refine c_getN (C := RX5) (T := TX5) (N := 7) (ref := "SegmentMap$Vertices") (ci := 6) (v := .ref p25) hC hin_X5 hP z24.1 (cE_5 z24.2) rfl 5 (by decide) (nm := "root") (ds := "LSegmentMap$Row;") (List.mem_of_getElem? (i := 21) rfl) rfl (by show some (va_rf (S.2.2.1 p22 5)) = _; rw [e26]; rfl) dX6_joinComponents_50 ?_
        refine lv_aload_n hx hb dX6_joinComponents_53 rfl (lv_at hl 1 rfl) ?_
        obtain ⟨p27, e28, h⟩ := cal_el h
        refine c_get (C := RX6) (T := TX6) (N := 8) (ref := "SegmentMap") (ci := 7) (v := .ref p27) hC hin_X6 hP z1.1 (cE_6 z1.2) rfl 3 (by decide) fl_X6_pieces rfl (by show some (va_rf (S.2.2.1 a0 3)) = _; rw [e28]; rfl) dX6_joinComponents_54 ?_
        obtain ⟨z29, h⟩ := ckK_el h
        obtain ⟨p30, e31, h⟩ := cal_el h
        refine c_getN (C := RX0) (T := TX0) (N := 6) (ref := "SegmentMap$Edges") (ci := 1) (v := .ref p30) hC hin_X0 hP z29.1 (cE_0 z29.2) rfl 2 (by decide) (nm := "end") (ds := "LSegmentMap$Row;") (List.mem_of_getElem? (i := 10) rfl) rfl (by show some (va_rf (S.2.2.1 p27 2)) = _; rw [e31]; rfl) dX6_joinComponents_57 ?_
        refine lv_iload_n hx hb dX6_joinComponents_60 rfl (lv_at hl 2 rfl) ?_
        obtain ⟨z32, h⟩ := ckK_el h
        obtain ⟨t34, e33, h⟩ := cal_el h
        refine c_VI (As := [.int x1]) (rest := [.ref p25]) hC hP hS z32.1 (cE_3 z32.2) (C := RX3) (T := TX3) (N := 1) rfl (m_X3_get l G F S D p30 x1 t34 e33) (cwV 1 hts (gWC wc_99 wc_100 wc_101 wc_102 wc_96) rfl rfl rfl (by decide +kernel) ⟨Nat.le_of_ble_eq_true rfl, Nat.le_of_ble_eq_true rfl⟩) rfl hl.1 rfl (Nat.le_of_ble_eq_true rfl) dX6_joinComponents_61 (fun H locs hP hS => ?_)
        obtain ⟨z35, h⟩ := ckK_el h
        obtain ⟨t37, e36, h⟩ := cal_el h
        refine c_VI (As := [.int t34]) (rest := []) hC hP hS z35.1 (cE_3 z35.2) (C := RX3) (T := TX3) (N := 1) rfl (m_X3_get l G F S D p25 t34 t37 e36) (cwV 1 hts (gWC wc_99 wc_100 wc_101 wc_102 wc_96) rfl rfl rfl (by decide +kernel) ⟨Nat.le_of_ble_eq_true rfl, Nat.le_of_ble_eq_true rfl⟩) rfl hl.1 rfl (Nat.le_of_ble_eq_true rfl) dX6_joinComponents_64 (fun H locs hP hS => ?_)
        refine lv_istore_n (lv' := [(3, .int t37), (2, .int t21), (0, .ref a0), (1, .int x1)]) hx hb dX6_joinComponents_67 rfl hl (by decide) rfl (fun ls hl => ?_)
        refine lv_iload_n hx hb dX6_joinComponents_68 rfl (lv_at hl 1 rfl) ?_
        refine lv_iload_n hx hb dX6_joinComponents_69 rfl (lv_at hl 0 rfl) ?_
        refine lv_icmp_eq (tgt := 100) hx hb dX6_joinComponents_70 (by decide) (fun u38 => ?_) (fun u38 => ?_)
        · have h := ite_t u38 h
          exact b100 _ _ _ D x1 hP hS (lv_sub hl [2, 3] rfl) h
        · have h := ite_f u38 h
          refine lv_aload_n hx hb dX6_joinComponents_73 rfl (lv_at hl 2 rfl) ?_
          obtain ⟨p39, e40, h⟩ := cal_el h
          refine c_get (C := RX6) (T := TX6) (N := 8) (ref := "SegmentMap") (ci := 7) (v := .ref p39) hC hin_X6 hP z1.1 (cE_6 z1.2) rfl 2 (by decide) fl_X6_corners rfl (by show some (va_rf (S.2.2.1 a0 2)) = _; rw [e40]; rfl) dX6_joinComponents_74 ?_
          refine lv_iload_n hx hb dX6_joinComponents_77 rfl (lv_at hl 1 rfl) ?_
          refine lv_iload_n hx hb dX6_joinComponents_78 rfl (lv_at hl 0 rfl) ?_
          refine va_mmin (own := RX6) hx hb (hml.trans hl.1.symm) hown (hts _ (List.mem_cons_of_mem _ wc_281)) (hts _ (List.mem_cons_of_mem _ wc_40)) (hts _ (List.mem_cons_of_mem _ wc_41)) (hts _ (List.mem_cons_of_mem _ wc_42)) (Nat.le_of_ble_eq_true rfl) (Nat.le_of_ble_eq_true rfl) (Nat.zero_le _) (Nat.zero_le _) dX6_joinComponents_79 ?_
          refine lv_iload_n hx hb dX6_joinComponents_82 rfl (lv_at hl 1 rfl) ?_
          refine lv_iload_n hx hb dX6_joinComponents_83 rfl (lv_at hl 0 rfl) ?_
          refine va_mmax (own := RX6) hx hb (hml.trans hl.1.symm) hown (hts _ (List.mem_cons_of_mem _ wc_282)) (hts _ (List.mem_cons_of_mem _ wc_44)) (hts _ (List.mem_cons_of_mem _ wc_41)) (hts _ (List.mem_cons_of_mem _ wc_45)) (Nat.le_of_ble_eq_true rfl) (Nat.le_of_ble_eq_true rfl) (Nat.zero_le _) (Nat.zero_le _) dX6_joinComponents_84 ?_
          obtain ⟨z41, h⟩ := ckK_el h
          obtain ⟨D43, e42, h⟩ := cal_el h
          refine c_VV (As := [.int (if t37 < t21 then t37 else t21), .int (if t21 < t37 then t37 else t21)]) (rest := []) hC hP hS z41.1 (cE_5 z41.2) (C := RX5) (T := TX5) (N := 7) rfl (m_X5_join l G F S D D43 p39 (if t37 < t21 then t37 else t21) (if t21 < t37 then t37 else t21) e42) (cwV 2 hts (gWC wc_283 wc_284 wc_285 wc_92 wc_278) rfl rfl rfl (by decide +kernel) ⟨Nat.le_of_ble_eq_true rfl, Nat.le_of_ble_eq_true rfl⟩) rfl hl.1 rfl (Nat.le_of_ble_eq_true rfl) dX6_joinComponents_87 (fun H locs hP hS => ?_)
          refine lv_aload_n hx hb dX6_joinComponents_90 rfl (lv_at hl 2 rfl) ?_
          refine lv_dup hx hb dX6_joinComponents_91 rfl ?_
          refine c_get (C := RX6) (T := TX6) (N := 8) (ref := "SegmentMap") (ci := 7) (v := .int (D43.1 a0 7)) hC hin_X6 hP z1.1 (cE_6 z1.2) rfl 7 (by decide) fl_X6_componentCount rfl rfl dX6_joinComponents_92 ?_
          refine lv_iconst (v := 1) hx hb dX6_joinComponents_95 (by decide) ?_
          refine lv_isub hx hb dX6_joinComponents_96 ?_
          obtain ⟨D44, e45, h⟩ := cfW_el h
          refine c_putI (C := RX6) (T := TX6) (N := 8) (ref := "SegmentMap") (ci := 7) hC hin_X6 tyX6 tyX6_ok nmX6 hP hS z1.1 (cE_6 z1.2) rfl 7 (by decide) fl_X6_componentCount rfl rfl (by decide +kernel) (Nat.le_of_ble_eq_true rfl) e45 (cset_6_7 G z1.2 _) dX6_joinComponents_97 (fun H locs hP hS => ?_)
          exact b100 _ _ _ D44 x1 hP hS (lv_sub hl [2, 3] rfl) h
  refine m_entry (Nat.le_of_ble_eq_true rfl) (fun ls hl => ?_)
  have hl : lv_has ls 4 [(0, .ref a0)] := hl
  unfold f_X6_joinComponents at h
  refine lv_aload_n hx hb dX6_joinComponents_0 rfl (lv_at hl 0 rfl) ?_
  refine lv_aload_n hx hb dX6_joinComponents_1 rfl (lv_at hl 0 rfl) ?_
  obtain ⟨z1, h⟩ := ckK_el h
  obtain ⟨p2, e3, h⟩ := cal_el h
  refine c_get (C := RX6) (T := TX6) (N := 8) (ref := "SegmentMap") (ci := 7) (v := .ref p2) hC hin_X6 hP z1.1 (cE_6 z1.2) rfl 2 (by decide) fl_X6_corners rfl (by show some (va_rf (S.2.2.1 a0 2)) = _; rw [e3]; rfl) dX6_joinComponents_2 ?_
  obtain ⟨z4, h⟩ := ckK_el h
  refine c_getN (C := RX5) (T := TX5) (N := 7) (ref := "SegmentMap$Vertices") (ci := 6) (v := .int (D.1 p2 6)) hC hin_X5 hP z4.1 (cE_5 z4.2) rfl 6 (by decide) (nm := "count") (ds := "I") (List.mem_of_getElem? (i := 0) rfl) rfl rfl dX6_joinComponents_5 ?_
  obtain ⟨D5, e6, h⟩ := cfW_el h
  refine c_putI (C := RX6) (T := TX6) (N := 8) (ref := "SegmentMap") (ci := 7) hC hin_X6 tyX6 tyX6_ok nmX6 hP hS z1.1 (cE_6 z1.2) rfl 7 (by decide) fl_X6_componentCount rfl rfl (by decide +kernel) (Nat.le_of_ble_eq_true rfl) e6 (cset_6_7 G z1.2 _) dX6_joinComponents_8 (fun H locs hP hS => ?_)
  refine lv_iconst (v := 0) hx hb dX6_joinComponents_11 (by decide) ?_
  refine lv_istore_n (lv' := [(1, .int 0), (0, .ref a0)]) hx hb dX6_joinComponents_12 rfl hl (by decide) rfl (fun ls hl => ?_)
  exact L13 F _ _ _ D5 0 hP hS (lv_sub hl [1, 0] rfl) h

theorem dX1_append_0 : decode cX1_append 0 = .ok (.aload_n 0, 1) := by decide +kernel
theorem dX1_append_1 : decode cX1_append 1 = .ok (.getfield 14, 3) := by decide +kernel
theorem dX1_append_4 : decode cX1_append 4 = .ok (.aload_n 0, 1) := by decide +kernel
theorem dX1_append_5 : decode cX1_append 5 = .ok (.getfield 23, 3) := by decide +kernel
theorem dX1_append_8 : decode cX1_append 8 = .ok (.iload_n 1, 1) := by decide +kernel
theorem dX1_append_9 : decode cX1_append 9 = .ok (.invokevirtual 31, 3) := by decide +kernel
theorem dX1_append_12 : decode cX1_append 12 = .ok (.aload_n 0, 1) := by decide +kernel
theorem dX1_append_13 : decode cX1_append 13 = .ok (.getfield 20, 3) := by decide +kernel
theorem dX1_append_16 : decode cX1_append 16 = .ok (.aload_n 0, 1) := by decide +kernel
theorem dX1_append_17 : decode cX1_append 17 = .ok (.getfield 23, 3) := by decide +kernel
theorem dX1_append_20 : decode cX1_append 20 = .ok (.iconst 0, 1) := by decide +kernel
theorem dX1_append_21 : decode cX1_append 21 = .ok (.invokevirtual 31, 3) := by decide +kernel
theorem dX1_append_24 : decode cX1_append 24 = .ok (.aload_n 0, 1) := by decide +kernel
theorem dX1_append_25 : decode cX1_append 25 = .ok (.dup, 1) := by decide +kernel
theorem dX1_append_26 : decode cX1_append 26 = .ok (.getfield 23, 3) := by decide +kernel
theorem dX1_append_29 : decode cX1_append 29 = .ok (.iconst 1, 1) := by decide +kernel
theorem dX1_append_30 : decode cX1_append 30 = .ok (.iadd, 1) := by decide +kernel
theorem dX1_append_31 : decode cX1_append 31 = .ok (.putfield 23, 3) := by decide +kernel
theorem dX1_append_34 : decode cX1_append 34 = .ok (.aload_n 0, 1) := by decide +kernel
theorem dX1_append_35 : decode cX1_append 35 = .ok (.getfield 23, 3) := by decide +kernel
theorem dX1_append_38 : decode cX1_append 38 = .ok (.iconst 1, 1) := by decide +kernel
theorem dX1_append_39 : decode cX1_append 39 = .ok (.isub, 1) := by decide +kernel
theorem dX1_append_40 : decode cX1_append 40 = .ok (.ireturn, 1) := by decide +kernel
def f_X1_append (F : Nat) (S : CS) (D : CD) (a0 : Nat) (a1 : Int32) : Option (CD × Int32) := ckK S a0 1 <| cal (S.2.2.1 a0 0) fun p2 => ckK S p2 3 <| cal (f_X3_set F S D p2 (D.1 a0 2) a1) fun D6 => cal (S.2.2.1 a0 1) fun p7 => ckK S p7 3 <| cal (f_X3_set F S D6 p7 (D6.1 a0 2) 0) fun D11 => cfW D11 a0 2 ((D11.1 a0 2) + 1) fun D12 => some (D12, (D12.1 a0 2) - 1)
set_option maxRecDepth 100000 in
set_option maxHeartbeats 4000000 in
theorem m_X1_append (l : Launch) (G : cG) (F : Nat) (S : CS) (D D2 : CD) (a0 : Nat) (a1 : Int32) (r : Int32) (h : f_X1_append F S D a0 a1 = some (D2, r)) : cMI l yX1_append vX1_append ({ frames := 1, cells := 0, slots := 0, locals := 22 }) G S [.ref a0, .int a1] D D2 r := by
  refine cBodyI (cc := cX1_append) (maxL := 2) (ret := (some .int)) (own := RX1) (by decide) rfl rfl ?_
  intro sz p e s m below meth c hC hP
  have hC0 := hC
  obtain ⟨hx, hb, -, hts, hown, -, hml, -, -, -⟩ := hC0
  have hS : va_S (cA G S sz) s.heap s.heap [] := va_S.rf
  have hin_X1 : ∀ w ∈ wsX10, w ∈ vX1_append := fun w h => List.mem_cons_of_mem _ (hWC1 w h)
  have fl_X1_first := hts _ (List.mem_cons_of_mem _ wc_287)
  have fl_X1_count := hts _ (List.mem_cons_of_mem _ wc_288)
  have fl_X1_sideCount := hts _ (List.mem_cons_of_mem _ wc_289)
  refine m_entry (Nat.le_of_ble_eq_true rfl) (fun ls hl => ?_)
  have hl : lv_has ls 2 [(0, .ref a0), (1, .int a1)] := hl
  unfold f_X1_append at h
  refine lv_aload_n hx hb dX1_append_0 rfl (lv_at hl 0 rfl) ?_
  obtain ⟨z1, h⟩ := ckK_el h
  obtain ⟨p2, e3, h⟩ := cal_el h
  refine c_get (C := RX1) (T := TX1) (N := 3) (ref := "SegmentMap$Faces") (ci := 2) (v := .ref p2) hC hin_X1 hP z1.1 (cE_1 z1.2) rfl 0 (by decide) fl_X1_first rfl (by show some (va_rf (S.2.2.1 a0 0)) = _; rw [e3]; rfl) dX1_append_1 ?_
  refine lv_aload_n hx hb dX1_append_4 rfl (lv_at hl 0 rfl) ?_
  refine c_get (C := RX1) (T := TX1) (N := 3) (ref := "SegmentMap$Faces") (ci := 2) (v := .int (D.1 a0 2)) hC hin_X1 hP z1.1 (cE_1 z1.2) rfl 2 (by decide) fl_X1_count rfl rfl dX1_append_5 ?_
  refine lv_iload_n hx hb dX1_append_8 rfl (lv_at hl 1 rfl) ?_
  obtain ⟨z4, h⟩ := ckK_el h
  obtain ⟨D6, e5, h⟩ := cal_el h
  refine c_VV (As := [.int (D.1 a0 2), .int a1]) (rest := []) hC hP hS z4.1 (cE_3 z4.2) (C := RX3) (T := TX3) (N := 1) rfl (m_X3_set l G F S D D6 p2 (D.1 a0 2) a1 e5) (cwV 2 hts (gWC wc_290 wc_247 wc_248 wc_102 wc_240) rfl rfl rfl (by decide +kernel) ⟨Nat.le_of_ble_eq_true rfl, Nat.le_of_ble_eq_true rfl⟩) rfl hl.1 rfl (Nat.le_of_ble_eq_true rfl) dX1_append_9 (fun H locs hP hS => ?_)
  refine lv_aload_n hx hb dX1_append_12 rfl (lv_at hl 0 rfl) ?_
  obtain ⟨p7, e8, h⟩ := cal_el h
  refine c_get (C := RX1) (T := TX1) (N := 3) (ref := "SegmentMap$Faces") (ci := 2) (v := .ref p7) hC hin_X1 hP z1.1 (cE_1 z1.2) rfl 1 (by decide) fl_X1_sideCount rfl (by show some (va_rf (S.2.2.1 a0 1)) = _; rw [e8]; rfl) dX1_append_13 ?_
  refine lv_aload_n hx hb dX1_append_16 rfl (lv_at hl 0 rfl) ?_
  refine c_get (C := RX1) (T := TX1) (N := 3) (ref := "SegmentMap$Faces") (ci := 2) (v := .int (D6.1 a0 2)) hC hin_X1 hP z1.1 (cE_1 z1.2) rfl 2 (by decide) fl_X1_count rfl rfl dX1_append_17 ?_
  refine lv_iconst (v := 0) hx hb dX1_append_20 (by decide) ?_
  obtain ⟨z9, h⟩ := ckK_el h
  obtain ⟨D11, e10, h⟩ := cal_el h
  refine c_VV (As := [.int (D6.1 a0 2), .int 0]) (rest := []) hC hP hS z9.1 (cE_3 z9.2) (C := RX3) (T := TX3) (N := 1) rfl (m_X3_set l G F S D6 D11 p7 (D6.1 a0 2) 0 e10) (cwV 2 hts (gWC wc_290 wc_247 wc_248 wc_102 wc_240) rfl rfl rfl (by decide +kernel) ⟨Nat.le_of_ble_eq_true rfl, Nat.le_of_ble_eq_true rfl⟩) rfl hl.1 rfl (Nat.le_of_ble_eq_true rfl) dX1_append_21 (fun H locs hP hS => ?_)
  refine lv_aload_n hx hb dX1_append_24 rfl (lv_at hl 0 rfl) ?_
  refine lv_dup hx hb dX1_append_25 rfl ?_
  refine c_get (C := RX1) (T := TX1) (N := 3) (ref := "SegmentMap$Faces") (ci := 2) (v := .int (D11.1 a0 2)) hC hin_X1 hP z1.1 (cE_1 z1.2) rfl 2 (by decide) fl_X1_count rfl rfl dX1_append_26 ?_
  refine lv_iconst (v := 1) hx hb dX1_append_29 (by decide) ?_
  refine lv_iadd hx hb dX1_append_30 ?_
  obtain ⟨D12, e13, h⟩ := cfW_el h
  refine c_putI (C := RX1) (T := TX1) (N := 3) (ref := "SegmentMap$Faces") (ci := 2) hC hin_X1 tyX1 tyX1_ok nmX1 hP hS z1.1 (cE_1 z1.2) rfl 2 (by decide) fl_X1_count rfl rfl (by decide +kernel) (Nat.le_of_ble_eq_true rfl) e13 (cset_1_2 G z1.2 _) dX1_append_31 (fun H locs hP hS => ?_)
  refine lv_aload_n hx hb dX1_append_34 rfl (lv_at hl 0 rfl) ?_
  refine c_get (C := RX1) (T := TX1) (N := 3) (ref := "SegmentMap$Faces") (ci := 2) (v := .int (D12.1 a0 2)) hC hin_X1 hP z1.1 (cE_1 z1.2) rfl 2 (by decide) fl_X1_count rfl rfl dX1_append_35 ?_
  refine lv_iconst (v := 1) hx hb dX1_append_38 (by decide) ?_
  refine lv_isub hx hb dX1_append_39 ?_
  cases h
  exact c_iret hC hP hS rfl dX1_append_40

theorem dX1_clear_0 : decode cX1_clear 0 = .ok (.aload_n 0, 1) := by decide +kernel
theorem dX1_clear_1 : decode cX1_clear 1 = .ok (.iconst 0, 1) := by decide +kernel
theorem dX1_clear_2 : decode cX1_clear 2 = .ok (.putfield 23, 3) := by decide +kernel
theorem dX1_clear_5 : decode cX1_clear 5 = .ok (.aload_n 0, 1) := by decide +kernel
theorem dX1_clear_6 : decode cX1_clear 6 = .ok (.iconst (-1), 1) := by decide +kernel
theorem dX1_clear_7 : decode cX1_clear 7 = .ok (.invokevirtual 27, 3) := by decide +kernel
theorem dX1_clear_10 : decode cX1_clear 10 = .ok (.pop, 1) := by decide +kernel
theorem dX1_clear_11 : decode cX1_clear 11 = .ok (.return_, 1) := by decide +kernel
def f_X1_clear (F : Nat) (S : CS) (D : CD) (a0 : Nat) : Option CD := ckK S a0 1 <| cfW D a0 2 0 fun D2 => caM (f_X1_append F S D2 a0 ((-1))) fun D5 t6 => some D5
set_option maxRecDepth 100000 in
set_option maxHeartbeats 4000000 in
theorem m_X1_clear (l : Launch) (G : cG) (F : Nat) (S : CS) (D D2 : CD) (a0 : Nat) (h : f_X1_clear F S D a0 = some D2) : cMV l yX1_clear vX1_clear ({ frames := 2, cells := 0, slots := 0, locals := 43 }) G S [.ref a0] D D2 := by
  refine cBodyV (cc := cX1_clear) (maxL := 1) (ret := none) (own := RX1) (by decide) rfl rfl ?_
  intro sz p e s m below meth c hC hP
  have hC0 := hC
  obtain ⟨hx, hb, -, hts, hown, -, hml, -, -, -⟩ := hC0
  have hS : va_S (cA G S sz) s.heap s.heap [] := va_S.rf
  have hin_X1 : ∀ w ∈ wsX10, w ∈ vX1_clear := fun w h => List.mem_cons_of_mem _ (hWC1 w h)
  have fl_X1_count := hts _ (List.mem_cons_of_mem _ wc_288)
  refine m_entry (Nat.le_of_ble_eq_true rfl) (fun ls hl => ?_)
  have hl : lv_has ls 1 [(0, .ref a0)] := hl
  unfold f_X1_clear at h
  refine lv_aload_n hx hb dX1_clear_0 rfl (lv_at hl 0 rfl) ?_
  refine lv_iconst (v := 0) hx hb dX1_clear_1 (by decide) ?_
  obtain ⟨z1, h⟩ := ckK_el h
  obtain ⟨D2, e3, h⟩ := cfW_el h
  refine c_putI (C := RX1) (T := TX1) (N := 3) (ref := "SegmentMap$Faces") (ci := 2) hC hin_X1 tyX1 tyX1_ok nmX1 hP hS z1.1 (cE_1 z1.2) rfl 2 (by decide) fl_X1_count rfl rfl (by decide +kernel) (Nat.le_of_ble_eq_true rfl) e3 (cset_1_2 G z1.2 _) dX1_clear_2 (fun H locs hP hS => ?_)
  refine lv_aload_n hx hb dX1_clear_5 rfl (lv_at hl 0 rfl) ?_
  refine lv_iconst (v := (-1)) hx hb dX1_clear_6 (by decide) ?_
  obtain ⟨D5, t6, e4, h⟩ := caM_el h
  refine c_VI (As := [.int ((-1))]) (rest := []) hC hP hS z1.1 (cE_1 z1.2) (C := RX1) (T := TX1) (N := 3) rfl (m_X1_append l G F S D2 D5 a0 ((-1)) t6 e4) (cwV 1 hts (gWC wc_292 wc_293 wc_294 wc_295 wc_286) rfl rfl rfl (by decide +kernel) ⟨Nat.le_of_ble_eq_true rfl, Nat.le_of_ble_eq_true rfl⟩) rfl hl.1 rfl (Nat.le_of_ble_eq_true rfl) dX1_clear_7 (fun H locs hP hS => ?_)
  refine lv_pop hx hb dX1_clear_10 rfl ?_
  cases h
  exact c_vret hC hP hS dX1_clear_11

theorem dX1_countSide_0 : decode cX1_countSide 0 = .ok (.aload_n 0, 1) := by decide +kernel
theorem dX1_countSide_1 : decode cX1_countSide 1 = .ok (.getfield 20, 3) := by decide +kernel
theorem dX1_countSide_4 : decode cX1_countSide 4 = .ok (.iload_n 1, 1) := by decide +kernel
theorem dX1_countSide_5 : decode cX1_countSide 5 = .ok (.aload_n 0, 1) := by decide +kernel
theorem dX1_countSide_6 : decode cX1_countSide 6 = .ok (.getfield 20, 3) := by decide +kernel
theorem dX1_countSide_9 : decode cX1_countSide 9 = .ok (.iload_n 1, 1) := by decide +kernel
theorem dX1_countSide_10 : decode cX1_countSide 10 = .ok (.invokevirtual 35, 3) := by decide +kernel
theorem dX1_countSide_13 : decode cX1_countSide 13 = .ok (.iconst 1, 1) := by decide +kernel
theorem dX1_countSide_14 : decode cX1_countSide 14 = .ok (.iadd, 1) := by decide +kernel
theorem dX1_countSide_15 : decode cX1_countSide 15 = .ok (.invokevirtual 31, 3) := by decide +kernel
theorem dX1_countSide_18 : decode cX1_countSide 18 = .ok (.return_, 1) := by decide +kernel
def f_X1_countSide (F : Nat) (S : CS) (D : CD) (a0 : Nat) (a1 : Int32) : Option CD := ckK S a0 1 <| cal (S.2.2.1 a0 1) fun p2 => cal (S.2.2.1 a0 1) fun p4 => ckK S p4 3 <| cal (f_X3_get F S D p4 a1) fun t8 => ckK S p2 3 <| cal (f_X3_set F S D p2 a1 (t8 + 1)) fun D11 => some D11
set_option maxRecDepth 100000 in
set_option maxHeartbeats 4000000 in
theorem m_X1_countSide (l : Launch) (G : cG) (F : Nat) (S : CS) (D D2 : CD) (a0 : Nat) (a1 : Int32) (h : f_X1_countSide F S D a0 a1 = some D2) : cMV l yX1_countSide vX1_countSide ({ frames := 1, cells := 0, slots := 0, locals := 22 }) G S [.ref a0, .int a1] D D2 := by
  refine cBodyV (cc := cX1_countSide) (maxL := 2) (ret := none) (own := RX1) (by decide) rfl rfl ?_
  intro sz p e s m below meth c hC hP
  have hC0 := hC
  obtain ⟨hx, hb, -, hts, hown, -, hml, -, -, -⟩ := hC0
  have hS : va_S (cA G S sz) s.heap s.heap [] := va_S.rf
  have hin_X1 : ∀ w ∈ wsX10, w ∈ vX1_countSide := fun w h => List.mem_cons_of_mem _ (hWC1 w h)
  have fl_X1_sideCount := hts _ (List.mem_cons_of_mem _ wc_289)
  refine m_entry (Nat.le_of_ble_eq_true rfl) (fun ls hl => ?_)
  have hl : lv_has ls 2 [(0, .ref a0), (1, .int a1)] := hl
  unfold f_X1_countSide at h
  refine lv_aload_n hx hb dX1_countSide_0 rfl (lv_at hl 0 rfl) ?_
  obtain ⟨z1, h⟩ := ckK_el h
  obtain ⟨p2, e3, h⟩ := cal_el h
  refine c_get (C := RX1) (T := TX1) (N := 3) (ref := "SegmentMap$Faces") (ci := 2) (v := .ref p2) hC hin_X1 hP z1.1 (cE_1 z1.2) rfl 1 (by decide) fl_X1_sideCount rfl (by show some (va_rf (S.2.2.1 a0 1)) = _; rw [e3]; rfl) dX1_countSide_1 ?_
  refine lv_iload_n hx hb dX1_countSide_4 rfl (lv_at hl 1 rfl) ?_
  refine lv_aload_n hx hb dX1_countSide_5 rfl (lv_at hl 0 rfl) ?_
  obtain ⟨p4, e5, h⟩ := cal_el h
  refine c_get (C := RX1) (T := TX1) (N := 3) (ref := "SegmentMap$Faces") (ci := 2) (v := .ref p4) hC hin_X1 hP z1.1 (cE_1 z1.2) rfl 1 (by decide) fl_X1_sideCount rfl (by show some (va_rf (S.2.2.1 a0 1)) = _; rw [e5]; rfl) dX1_countSide_6 ?_
  refine lv_iload_n hx hb dX1_countSide_9 rfl (lv_at hl 1 rfl) ?_
  obtain ⟨z6, h⟩ := ckK_el h
  obtain ⟨t8, e7, h⟩ := cal_el h
  refine c_VI (As := [.int a1]) (rest := [.int a1, .ref p2]) hC hP hS z6.1 (cE_3 z6.2) (C := RX3) (T := TX3) (N := 1) rfl (m_X3_get l G F S D p4 a1 t8 e7) (cwV 1 hts (gWC wc_297 wc_100 wc_101 wc_102 wc_96) rfl rfl rfl (by decide +kernel) ⟨Nat.le_of_ble_eq_true rfl, Nat.le_of_ble_eq_true rfl⟩) rfl hl.1 rfl (Nat.le_of_ble_eq_true rfl) dX1_countSide_10 (fun H locs hP hS => ?_)
  refine lv_iconst (v := 1) hx hb dX1_countSide_13 (by decide) ?_
  refine lv_iadd hx hb dX1_countSide_14 ?_
  obtain ⟨z9, h⟩ := ckK_el h
  obtain ⟨D11, e10, h⟩ := cal_el h
  refine c_VV (As := [.int a1, .int (t8 + 1)]) (rest := []) hC hP hS z9.1 (cE_3 z9.2) (C := RX3) (T := TX3) (N := 1) rfl (m_X3_set l G F S D D11 p2 a1 (t8 + 1) e10) (cwV 2 hts (gWC wc_290 wc_247 wc_248 wc_102 wc_240) rfl rfl rfl (by decide +kernel) ⟨Nat.le_of_ble_eq_true rfl, Nat.le_of_ble_eq_true rfl⟩) rfl hl.1 rfl (Nat.le_of_ble_eq_true rfl) dX1_countSide_15 (fun H locs hP hS => ?_)
  cases h
  exact c_vret hC hP hS dX1_countSide_18

theorem dX6_paintBorder_0 : decode cX6_paintBorder 0 = .ok (.iload_n 1, 1) := by decide +kernel
theorem dX6_paintBorder_1 : decode cX6_paintBorder 1 = .ok (.istore_n 3, 1) := by decide +kernel
theorem dX6_paintBorder_2 : decode cX6_paintBorder 2 = .ok (.iconst 0, 1) := by decide +kernel
theorem dX6_paintBorder_3 : decode cX6_paintBorder 3 = .ok (.istore 4, 2) := by decide +kernel
theorem dX6_paintBorder_5 : decode cX6_paintBorder 5 = .ok (.iload 4, 2) := by decide +kernel
theorem dX6_paintBorder_7 : decode cX6_paintBorder 7 = .ok (.sipush 288, 3) := by decide +kernel
theorem dX6_paintBorder_10 : decode cX6_paintBorder 10 = .ok (.if_icmp .ge 58, 3) := by decide +kernel
theorem dX6_paintBorder_13 : decode cX6_paintBorder 13 = .ok (.aload_n 0, 1) := by decide +kernel
theorem dX6_paintBorder_14 : decode cX6_paintBorder 14 = .ok (.getfield 35, 3) := by decide +kernel
theorem dX6_paintBorder_17 : decode cX6_paintBorder 17 = .ok (.getfield 156, 3) := by decide +kernel
theorem dX6_paintBorder_20 : decode cX6_paintBorder 20 = .ok (.iload_n 3, 1) := by decide +kernel
theorem dX6_paintBorder_21 : decode cX6_paintBorder 21 = .ok (.invokevirtual 140, 3) := by decide +kernel
theorem dX6_paintBorder_24 : decode cX6_paintBorder 24 = .ok (.iconst (-1), 1) := by decide +kernel
theorem dX6_paintBorder_25 : decode cX6_paintBorder 25 = .ok (.if_icmp .ne 43, 3) := by decide +kernel
theorem dX6_paintBorder_28 : decode cX6_paintBorder 28 = .ok (.aload_n 0, 1) := by decide +kernel
theorem dX6_paintBorder_29 : decode cX6_paintBorder 29 = .ok (.getfield 35, 3) := by decide +kernel
theorem dX6_paintBorder_32 : decode cX6_paintBorder 32 = .ok (.getfield 156, 3) := by decide +kernel
theorem dX6_paintBorder_35 : decode cX6_paintBorder 35 = .ok (.iload_n 3, 1) := by decide +kernel
theorem dX6_paintBorder_36 : decode cX6_paintBorder 36 = .ok (.iload_n 2, 1) := by decide +kernel
theorem dX6_paintBorder_37 : decode cX6_paintBorder 37 = .ok (.invokevirtual 273, 3) := by decide +kernel
theorem dX6_paintBorder_40 : decode cX6_paintBorder 40 = .ok (.aload_n 0, 1) := by decide +kernel
theorem dX6_paintBorder_41 : decode cX6_paintBorder 41 = .ok (.getfield 42, 3) := by decide +kernel
theorem dX6_paintBorder_44 : decode cX6_paintBorder 44 = .ok (.iload_n 2, 1) := by decide +kernel
theorem dX6_paintBorder_45 : decode cX6_paintBorder 45 = .ok (.invokevirtual 316, 3) := by decide +kernel
theorem dX6_paintBorder_48 : decode cX6_paintBorder 48 = .ok (.aload_n 0, 1) := by decide +kernel
theorem dX6_paintBorder_49 : decode cX6_paintBorder 49 = .ok (.getfield 35, 3) := by decide +kernel
theorem dX6_paintBorder_52 : decode cX6_paintBorder 52 = .ok (.getfield 290, 3) := by decide +kernel
theorem dX6_paintBorder_55 : decode cX6_paintBorder 55 = .ok (.iload_n 3, 1) := by decide +kernel
theorem dX6_paintBorder_56 : decode cX6_paintBorder 56 = .ok (.invokevirtual 140, 3) := by decide +kernel
theorem dX6_paintBorder_59 : decode cX6_paintBorder 59 = .ok (.iconst 1, 1) := by decide +kernel
theorem dX6_paintBorder_60 : decode cX6_paintBorder 60 = .ok (.ixor, 1) := by decide +kernel
theorem dX6_paintBorder_61 : decode cX6_paintBorder 61 = .ok (.istore_n 3, 1) := by decide +kernel
theorem dX6_paintBorder_62 : decode cX6_paintBorder 62 = .ok (.iinc 4 1, 3) := by decide +kernel
theorem dX6_paintBorder_65 : decode cX6_paintBorder 65 = .ok (.goto (-60), 3) := by decide +kernel
theorem dX6_paintBorder_68 : decode cX6_paintBorder 68 = .ok (.return_, 1) := by decide +kernel
def f_X6_paintBorder_L5 (F : Nat) (S : CS) (a0 : Nat) : Nat → CD → Int32 → Int32 → Int32 → Option CD
  | 0, _, _, _, _ => none
  | n5 + 1, D, x2, x3, x4 => (if 288 ≤ x4 then some D else ckK S a0 6 <| cal (S.2.2.1 a0 3) fun p3 => ckK S p3 0 <| cal (S.2.2.1 p3 4) fun p6 => ckK S p6 3 <| cal (f_X3_get F S D p6 x3) fun t10 => (if t10 = ((-1)) then cal (S.2.2.1 a0 3) fun p12 => ckK S p12 0 <| cal (S.2.2.1 p12 4) fun p15 => ckK S p15 3 <| cal (f_X3_set F S D p15 x3 x2) fun D19 => cal (S.2.2.1 a0 4) fun p20 => ckK S p20 1 <| cal (f_X1_countSide F S D19 p20 x2) fun D24 => cal (S.2.2.1 a0 3) fun p25 => ckK S p25 0 <| cal (S.2.2.1 p25 3) fun p28 => ckK S p28 3 <| cal (f_X3_get F S D24 p28 x3) fun t32 => (f_X6_paintBorder_L5 F S a0 n5) D24 x2 (t32 ^^^ 1) (x4 + 1) else some D))
def f_X6_paintBorder (F : Nat) (S : CS) (D : CD) (a0 : Nat) (a1 : Int32) (a2 : Int32) : Option CD := f_X6_paintBorder_L5 F S a0 F D a2 a1 0
set_option maxRecDepth 100000 in
set_option maxHeartbeats 4000000 in
theorem m_X6_paintBorder (l : Launch) (G : cG) (F : Nat) (S : CS) (D D2 : CD) (a0 : Nat) (a1 : Int32) (a2 : Int32) (h : f_X6_paintBorder F S D a0 a1 a2 = some D2) : cMV l yX6_paintBorder vX6_paintBorder ({ frames := 2, cells := 0, slots := 0, locals := 43 }) G S [.ref a0, .int a1, .int a2] D D2 := by
  refine cBodyV (cc := cX6_paintBorder) (maxL := 5) (ret := none) (own := RX6) (by decide) rfl rfl ?_
  intro sz p e s m below meth c hC hP
  have hC0 := hC
  obtain ⟨hx, hb, -, hts, hown, -, hml, -, -, -⟩ := hC0
  have hS : va_S (cA G S sz) s.heap s.heap [] := va_S.rf
  have hin_X0 : ∀ w ∈ wsX00, w ∈ vX6_paintBorder := fun w h => List.mem_cons_of_mem _ (hWC0 w h)
  have hin_X6 : ∀ w ∈ wsX60, w ∈ vX6_paintBorder := fun w h => List.mem_cons_of_mem _ (hWC6 w h)
  have fl_X6_pieces := hts _ (List.mem_cons_of_mem _ wc_76)
  have fl_X6_regions := hts _ (List.mem_cons_of_mem _ wc_78)
  have L5 : ∀ (n5 : Nat) (H : Heap) (locs : List Loc) (ls : Array Slot) (D : CD) (x2 : Int32) (x3 : Int32) (x4 : Int32), va_P G.1 vwCl (cW G S D) H → va_S (cA G S sz) s.heap H locs → lv_has ls 5 [(0, .ref a0), (2, .int x2), (3, .int x3), (4, .int x4)] → f_X6_paintBorder_L5 F S a0 n5 D x2 x3 x4 = some D2 → W p l e (headSpec vX6_paintBorder ({ frames := 2, cells := 0, slots := 0, locals := 43 })).room s m ([.ref a0, .int a1, .int a2] : List Value).toArray below meth c H locs 0 0 (cQV below G S D2 sz ([.ref a0, .int a1, .int a2] : List Value).toArray s) (F0 m 5 ls []) := by
    intro n5
    induction n5 with
    | zero =>
      intro H locs ls D x2 x3 x4 hP hS hl h
      rw [f_X6_paintBorder_L5] at h; cases h
    | succ n5 ih5 =>
      intro H locs ls D x2 x3 x4 hP hS hl h
      rw [f_X6_paintBorder_L5] at h
      refine lv_iload hx hb dX6_paintBorder_5 (lv_at hl 3 rfl) ?_
      refine lv_sipush (v := 288) hx hb dX6_paintBorder_7 (by decide) ?_
      refine lv_icmp_ge (tgt := 68) hx hb dX6_paintBorder_10 (by decide) (fun u1 => ?_) (fun u1 => ?_)
      · have h := ite_t u1 h
        cases h
        exact c_vret hC hP hS dX6_paintBorder_68
      · have h := ite_f u1 h
        refine lv_aload_n hx hb dX6_paintBorder_13 rfl (lv_at hl 0 rfl) ?_
        obtain ⟨z2, h⟩ := ckK_el h
        obtain ⟨p3, e4, h⟩ := cal_el h
        refine c_get (C := RX6) (T := TX6) (N := 8) (ref := "SegmentMap") (ci := 7) (v := .ref p3) hC hin_X6 hP z2.1 (cE_6 z2.2) rfl 3 (by decide) fl_X6_pieces rfl (by show some (va_rf (S.2.2.1 a0 3)) = _; rw [e4]; rfl) dX6_paintBorder_14 ?_
        obtain ⟨z5, h⟩ := ckK_el h
        obtain ⟨p6, e7, h⟩ := cal_el h
        refine c_getN (C := RX0) (T := TX0) (N := 6) (ref := "SegmentMap$Edges") (ci := 1) (v := .ref p6) hC hin_X0 hP z5.1 (cE_0 z5.2) rfl 4 (by decide) (nm := "face") (ds := "LSegmentMap$Row;") (List.mem_of_getElem? (i := 11) rfl) rfl (by show some (va_rf (S.2.2.1 p3 4)) = _; rw [e7]; rfl) dX6_paintBorder_17 ?_
        refine lv_iload_n hx hb dX6_paintBorder_20 rfl (lv_at hl 2 rfl) ?_
        obtain ⟨z8, h⟩ := ckK_el h
        obtain ⟨t10, e9, h⟩ := cal_el h
        refine c_VI (As := [.int x3]) (rest := []) hC hP hS z8.1 (cE_3 z8.2) (C := RX3) (T := TX3) (N := 1) rfl (m_X3_get l G F S D p6 x3 t10 e9) (cwV 1 hts (gWC wc_99 wc_100 wc_101 wc_102 wc_96) rfl rfl rfl (by decide +kernel) ⟨Nat.le_of_ble_eq_true rfl, Nat.le_of_ble_eq_true rfl⟩) rfl hl.1 rfl (Nat.le_of_ble_eq_true rfl) dX6_paintBorder_21 (fun H locs hP hS => ?_)
        refine lv_iconst (v := (-1)) hx hb dX6_paintBorder_24 (by decide) ?_
        refine lv_icmp_ne (tgt := 68) hx hb dX6_paintBorder_25 (by decide) (fun u11 => ?_) (fun u11 => ?_)
        · have h := ite_f u11 h
          cases h
          exact c_vret hC hP hS dX6_paintBorder_68
        · have h := ite_t u11 h
          refine lv_aload_n hx hb dX6_paintBorder_28 rfl (lv_at hl 0 rfl) ?_
          obtain ⟨p12, e13, h⟩ := cal_el h
          refine c_get (C := RX6) (T := TX6) (N := 8) (ref := "SegmentMap") (ci := 7) (v := .ref p12) hC hin_X6 hP z2.1 (cE_6 z2.2) rfl 3 (by decide) fl_X6_pieces rfl (by show some (va_rf (S.2.2.1 a0 3)) = _; rw [e13]; rfl) dX6_paintBorder_29 ?_
          obtain ⟨z14, h⟩ := ckK_el h
          obtain ⟨p15, e16, h⟩ := cal_el h
          refine c_getN (C := RX0) (T := TX0) (N := 6) (ref := "SegmentMap$Edges") (ci := 1) (v := .ref p15) hC hin_X0 hP z14.1 (cE_0 z14.2) rfl 4 (by decide) (nm := "face") (ds := "LSegmentMap$Row;") (List.mem_of_getElem? (i := 11) rfl) rfl (by show some (va_rf (S.2.2.1 p12 4)) = _; rw [e16]; rfl) dX6_paintBorder_32 ?_
          refine lv_iload_n hx hb dX6_paintBorder_35 rfl (lv_at hl 2 rfl) ?_
          refine lv_iload_n hx hb dX6_paintBorder_36 rfl (lv_at hl 1 rfl) ?_
          obtain ⟨z17, h⟩ := ckK_el h
          obtain ⟨D19, e18, h⟩ := cal_el h
          refine c_VV (As := [.int x3, .int x2]) (rest := []) hC hP hS z17.1 (cE_3 z17.2) (C := RX3) (T := TX3) (N := 1) rfl (m_X3_set l G F S D D19 p15 x3 x2 e18) (cwV 2 hts (gWC wc_259 wc_247 wc_248 wc_102 wc_240) rfl rfl rfl (by decide +kernel) ⟨Nat.le_of_ble_eq_true rfl, Nat.le_of_ble_eq_true rfl⟩) rfl hl.1 rfl (Nat.le_of_ble_eq_true rfl) dX6_paintBorder_37 (fun H locs hP hS => ?_)
          refine lv_aload_n hx hb dX6_paintBorder_40 rfl (lv_at hl 0 rfl) ?_
          obtain ⟨p20, e21, h⟩ := cal_el h
          refine c_get (C := RX6) (T := TX6) (N := 8) (ref := "SegmentMap") (ci := 7) (v := .ref p20) hC hin_X6 hP z2.1 (cE_6 z2.2) rfl 4 (by decide) fl_X6_regions rfl (by show some (va_rf (S.2.2.1 a0 4)) = _; rw [e21]; rfl) dX6_paintBorder_41 ?_
          refine lv_iload_n hx hb dX6_paintBorder_44 rfl (lv_at hl 1 rfl) ?_
          obtain ⟨z22, h⟩ := ckK_el h
          obtain ⟨D24, e23, h⟩ := cal_el h
          refine c_VV (As := [.int x2]) (rest := []) hC hP hS z22.1 (cE_1 z22.2) (C := RX1) (T := TX1) (N := 3) rfl (m_X1_countSide l G F S D19 D24 p20 x2 e23) (cwV 1 hts (gWC wc_299 wc_300 wc_301 wc_295 wc_296) rfl rfl rfl (by decide +kernel) ⟨Nat.le_of_ble_eq_true rfl, Nat.le_of_ble_eq_true rfl⟩) rfl hl.1 rfl (Nat.le_of_ble_eq_true rfl) dX6_paintBorder_45 (fun H locs hP hS => ?_)
          refine lv_aload_n hx hb dX6_paintBorder_48 rfl (lv_at hl 0 rfl) ?_
          obtain ⟨p25, e26, h⟩ := cal_el h
          refine c_get (C := RX6) (T := TX6) (N := 8) (ref := "SegmentMap") (ci := 7) (v := .ref p25) hC hin_X6 hP z2.1 (cE_6 z2.2) rfl 3 (by decide) fl_X6_pieces rfl (by show some (va_rf (S.2.2.1 a0 3)) = _; rw [e26]; rfl) dX6_paintBorder_49 ?_
          obtain ⟨z27, h⟩ := ckK_el h
          obtain ⟨p28, e29, h⟩ := cal_el h
          refine c_getN (C := RX0) (T := TX0) (N := 6) (ref := "SegmentMap$Edges") (ci := 1) (v := .ref p28) hC hin_X0 hP z27.1 (cE_0 z27.2) rfl 3 (by decide) (nm := "above") (ds := "LSegmentMap$Row;") (List.mem_of_getElem? (i := 19) rfl) rfl (by show some (va_rf (S.2.2.1 p25 3)) = _; rw [e29]; rfl) dX6_paintBorder_52 ?_
          refine lv_iload_n hx hb dX6_paintBorder_55 rfl (lv_at hl 2 rfl) ?_
          obtain ⟨z30, h⟩ := ckK_el h
          obtain ⟨t32, e31, h⟩ := cal_el h
          refine c_VI (As := [.int x3]) (rest := []) hC hP hS z30.1 (cE_3 z30.2) (C := RX3) (T := TX3) (N := 1) rfl (m_X3_get l G F S D24 p28 x3 t32 e31) (cwV 1 hts (gWC wc_99 wc_100 wc_101 wc_102 wc_96) rfl rfl rfl (by decide +kernel) ⟨Nat.le_of_ble_eq_true rfl, Nat.le_of_ble_eq_true rfl⟩) rfl hl.1 rfl (Nat.le_of_ble_eq_true rfl) dX6_paintBorder_56 (fun H locs hP hS => ?_)
          refine lv_iconst (v := 1) hx hb dX6_paintBorder_59 (by decide) ?_
          refine lv_ixor hx hb dX6_paintBorder_60 ?_
          refine lv_istore_n (lv' := [(3, .int (t32 ^^^ 1)), (0, .ref a0), (2, .int x2), (4, .int x4)]) hx hb dX6_paintBorder_61 rfl hl (by decide) rfl (fun ls hl => ?_)
          refine lv_iinc (v := x4 + 1) (lv' := [(4, .int (x4 + 1)), (3, .int (t32 ^^^ 1)), (0, .ref a0), (2, .int x2)]) hx hb dX6_paintBorder_62 hl (k := 3) rfl rfl (by decide) rfl (fun ls hl => ?_)
          refine lv_goto (tgt := 5) hx hb dX6_paintBorder_65 (by decide) ?_
          exact ih5 _ _ _ D24 x2 (t32 ^^^ 1) (x4 + 1) hP hS (lv_sub hl [2, 3, 1, 0] rfl) h
  refine m_entry (Nat.le_of_ble_eq_true rfl) (fun ls hl => ?_)
  have hl : lv_has ls 5 [(0, .ref a0), (1, .int a1), (2, .int a2)] := hl
  unfold f_X6_paintBorder at h
  refine lv_iload_n hx hb dX6_paintBorder_0 rfl (lv_at hl 1 rfl) ?_
  refine lv_istore_n (lv' := [(3, .int a1), (0, .ref a0), (1, .int a1), (2, .int a2)]) hx hb dX6_paintBorder_1 rfl hl (by decide) rfl (fun ls hl => ?_)
  refine lv_iconst (v := 0) hx hb dX6_paintBorder_2 (by decide) ?_
  refine lv_istore (lv' := [(4, .int 0), (3, .int a1), (0, .ref a0), (1, .int a1), (2, .int a2)]) hx hb dX6_paintBorder_3 hl (by decide) rfl (fun ls hl => ?_)
  exact L5 F _ _ _ D a2 a1 0 hP hS (lv_sub hl [2, 4, 1, 0] rfl) h

theorem dX6_gatherFaces_0 : decode cX6_gatherFaces 0 = .ok (.aload_n 0, 1) := by decide +kernel
theorem dX6_gatherFaces_1 : decode cX6_gatherFaces 1 = .ok (.getfield 42, 3) := by decide +kernel
theorem dX6_gatherFaces_4 : decode cX6_gatherFaces 4 = .ok (.invokevirtual 310, 3) := by decide +kernel
theorem dX6_gatherFaces_7 : decode cX6_gatherFaces 7 = .ok (.iconst 0, 1) := by decide +kernel
theorem dX6_gatherFaces_8 : decode cX6_gatherFaces 8 = .ok (.istore_n 1, 1) := by decide +kernel
theorem dX6_gatherFaces_9 : decode cX6_gatherFaces 9 = .ok (.iload_n 1, 1) := by decide +kernel
theorem dX6_gatherFaces_10 : decode cX6_gatherFaces 10 = .ok (.aload_n 0, 1) := by decide +kernel
theorem dX6_gatherFaces_11 : decode cX6_gatherFaces 11 = .ok (.getfield 28, 3) := by decide +kernel
theorem dX6_gatherFaces_14 : decode cX6_gatherFaces 14 = .ok (.getfield 108, 3) := by decide +kernel
theorem dX6_gatherFaces_17 : decode cX6_gatherFaces 17 = .ok (.if_icmp .ge 126, 3) := by decide +kernel
theorem dX6_gatherFaces_20 : decode cX6_gatherFaces 20 = .ok (.aload_n 0, 1) := by decide +kernel
theorem dX6_gatherFaces_21 : decode cX6_gatherFaces 21 = .ok (.getfield 28, 3) := by decide +kernel
theorem dX6_gatherFaces_24 : decode cX6_gatherFaces 24 = .ok (.getfield 296, 3) := by decide +kernel
theorem dX6_gatherFaces_27 : decode cX6_gatherFaces 27 = .ok (.iload_n 1, 1) := by decide +kernel
theorem dX6_gatherFaces_28 : decode cX6_gatherFaces 28 = .ok (.invokevirtual 140, 3) := by decide +kernel
theorem dX6_gatherFaces_31 : decode cX6_gatherFaces 31 = .ok (.iload_n 1, 1) := by decide +kernel
theorem dX6_gatherFaces_32 : decode cX6_gatherFaces 32 = .ok (.if_icmp .ne 30, 3) := by decide +kernel
theorem dX6_gatherFaces_35 : decode cX6_gatherFaces 35 = .ok (.aload_n 0, 1) := by decide +kernel
theorem dX6_gatherFaces_36 : decode cX6_gatherFaces 36 = .ok (.aload_n 0, 1) := by decide +kernel
theorem dX6_gatherFaces_37 : decode cX6_gatherFaces 37 = .ok (.getfield 28, 3) := by decide +kernel
theorem dX6_gatherFaces_40 : decode cX6_gatherFaces 40 = .ok (.getfield 293, 3) := by decide +kernel
theorem dX6_gatherFaces_43 : decode cX6_gatherFaces 43 = .ok (.iload_n 1, 1) := by decide +kernel
theorem dX6_gatherFaces_44 : decode cX6_gatherFaces 44 = .ok (.invokevirtual 140, 3) := by decide +kernel
theorem dX6_gatherFaces_47 : decode cX6_gatherFaces 47 = .ok (.aload_n 0, 1) := by decide +kernel
theorem dX6_gatherFaces_48 : decode cX6_gatherFaces 48 = .ok (.aload_n 0, 1) := by decide +kernel
theorem dX6_gatherFaces_49 : decode cX6_gatherFaces 49 = .ok (.getfield 28, 3) := by decide +kernel
theorem dX6_gatherFaces_52 : decode cX6_gatherFaces 52 = .ok (.iload_n 1, 1) := by decide +kernel
theorem dX6_gatherFaces_53 : decode cX6_gatherFaces 53 = .ok (.invokevirtual 120, 3) := by decide +kernel
theorem dX6_gatherFaces_56 : decode cX6_gatherFaces 56 = .ok (.invokevirtual 178, 3) := by decide +kernel
theorem dX6_gatherFaces_59 : decode cX6_gatherFaces 59 = .ok (.invokevirtual 311, 3) := by decide +kernel
theorem dX6_gatherFaces_62 : decode cX6_gatherFaces 62 = .ok (.aload_n 0, 1) := by decide +kernel
theorem dX6_gatherFaces_63 : decode cX6_gatherFaces 63 = .ok (.getfield 28, 3) := by decide +kernel
theorem dX6_gatherFaces_66 : decode cX6_gatherFaces 66 = .ok (.getfield 287, 3) := by decide +kernel
theorem dX6_gatherFaces_69 : decode cX6_gatherFaces 69 = .ok (.iload_n 1, 1) := by decide +kernel
theorem dX6_gatherFaces_70 : decode cX6_gatherFaces 70 = .ok (.invokevirtual 140, 3) := by decide +kernel
theorem dX6_gatherFaces_73 : decode cX6_gatherFaces 73 = .ok (.istore_n 2, 1) := by decide +kernel
theorem dX6_gatherFaces_74 : decode cX6_gatherFaces 74 = .ok (.iconst 0, 1) := by decide +kernel
theorem dX6_gatherFaces_75 : decode cX6_gatherFaces 75 = .ok (.istore_n 3, 1) := by decide +kernel
theorem dX6_gatherFaces_76 : decode cX6_gatherFaces 76 = .ok (.iload_n 3, 1) := by decide +kernel
theorem dX6_gatherFaces_77 : decode cX6_gatherFaces 77 = .ok (.aload_n 0, 1) := by decide +kernel
theorem dX6_gatherFaces_78 : decode cX6_gatherFaces 78 = .ok (.getfield 28, 3) := by decide +kernel
theorem dX6_gatherFaces_81 : decode cX6_gatherFaces 81 = .ok (.getfield 137, 3) := by decide +kernel
theorem dX6_gatherFaces_84 : decode cX6_gatherFaces 84 = .ok (.iload_n 1, 1) := by decide +kernel
theorem dX6_gatherFaces_85 : decode cX6_gatherFaces 85 = .ok (.invokevirtual 140, 3) := by decide +kernel
theorem dX6_gatherFaces_88 : decode cX6_gatherFaces 88 = .ok (.if_icmp .ge 49, 3) := by decide +kernel
theorem dX6_gatherFaces_91 : decode cX6_gatherFaces 91 = .ok (.aload_n 0, 1) := by decide +kernel
theorem dX6_gatherFaces_92 : decode cX6_gatherFaces 92 = .ok (.getfield 35, 3) := by decide +kernel
theorem dX6_gatherFaces_95 : decode cX6_gatherFaces 95 = .ok (.getfield 156, 3) := by decide +kernel
theorem dX6_gatherFaces_98 : decode cX6_gatherFaces 98 = .ok (.iload_n 2, 1) := by decide +kernel
theorem dX6_gatherFaces_99 : decode cX6_gatherFaces 99 = .ok (.invokevirtual 140, 3) := by decide +kernel
theorem dX6_gatherFaces_102 : decode cX6_gatherFaces 102 = .ok (.iconst (-1), 1) := by decide +kernel
theorem dX6_gatherFaces_103 : decode cX6_gatherFaces 103 = .ok (.if_icmp .ne 16, 3) := by decide +kernel
theorem dX6_gatherFaces_106 : decode cX6_gatherFaces 106 = .ok (.aload_n 0, 1) := by decide +kernel
theorem dX6_gatherFaces_107 : decode cX6_gatherFaces 107 = .ok (.iload_n 2, 1) := by decide +kernel
theorem dX6_gatherFaces_108 : decode cX6_gatherFaces 108 = .ok (.aload_n 0, 1) := by decide +kernel
theorem dX6_gatherFaces_109 : decode cX6_gatherFaces 109 = .ok (.getfield 42, 3) := by decide +kernel
theorem dX6_gatherFaces_112 : decode cX6_gatherFaces 112 = .ok (.iload_n 1, 1) := by decide +kernel
theorem dX6_gatherFaces_113 : decode cX6_gatherFaces 113 = .ok (.invokevirtual 314, 3) := by decide +kernel
theorem dX6_gatherFaces_116 : decode cX6_gatherFaces 116 = .ok (.invokevirtual 311, 3) := by decide +kernel
theorem dX6_gatherFaces_119 : decode cX6_gatherFaces 119 = .ok (.aload_n 0, 1) := by decide +kernel
theorem dX6_gatherFaces_120 : decode cX6_gatherFaces 120 = .ok (.getfield 35, 3) := by decide +kernel
theorem dX6_gatherFaces_123 : decode cX6_gatherFaces 123 = .ok (.getfield 290, 3) := by decide +kernel
theorem dX6_gatherFaces_126 : decode cX6_gatherFaces 126 = .ok (.iload_n 2, 1) := by decide +kernel
theorem dX6_gatherFaces_127 : decode cX6_gatherFaces 127 = .ok (.invokevirtual 140, 3) := by decide +kernel
theorem dX6_gatherFaces_130 : decode cX6_gatherFaces 130 = .ok (.istore_n 2, 1) := by decide +kernel
theorem dX6_gatherFaces_131 : decode cX6_gatherFaces 131 = .ok (.iinc 3 1, 3) := by decide +kernel
theorem dX6_gatherFaces_134 : decode cX6_gatherFaces 134 = .ok (.goto (-58), 3) := by decide +kernel
theorem dX6_gatherFaces_137 : decode cX6_gatherFaces 137 = .ok (.iinc 1 1, 3) := by decide +kernel
theorem dX6_gatherFaces_140 : decode cX6_gatherFaces 140 = .ok (.goto (-131), 3) := by decide +kernel
theorem dX6_gatherFaces_143 : decode cX6_gatherFaces 143 = .ok (.return_, 1) := by decide +kernel
def f_X6_gatherFaces_b119 (F : Nat) (S : CS) (a0 : Nat) (k9 : CD → Int32 → Option CD) (k76 : CD → Int32 → Int32 → Int32 → Option CD) (D : CD) (x1 : Int32) (x2 : Int32) (x3 : Int32) : Option CD := ckK S a0 6 <| cal (S.2.2.1 a0 3) fun p2 => ckK S p2 0 <| cal (S.2.2.1 p2 3) fun p5 => ckK S p5 3 <| cal (f_X3_get F S D p5 x2) fun t9 => k76 D x1 t9 (x3 + 1)
def f_X6_gatherFaces_L76 (F : Nat) (S : CS) (a0 : Nat) (k9 : CD → Int32 → Option CD) : Nat → CD → Int32 → Int32 → Int32 → Option CD
  | 0, _, _, _, _ => none
  | n76 + 1, D, x1, x2, x3 => ckK S a0 6 <| cal (S.2.2.1 a0 2) fun p2 => ckK S p2 5 <| cal (S.2.2.1 p2 2) fun p5 => ckK S p5 3 <| cal (f_X3_get F S D p5 x1) fun t9 => (if t9 ≤ x3 then k9 D (x1 + 1) else cal (S.2.2.1 a0 3) fun p11 => ckK S p11 0 <| cal (S.2.2.1 p11 4) fun p14 => ckK S p14 3 <| cal (f_X3_get F S D p14 x2) fun t18 => (if t18 = ((-1)) then cal (S.2.2.1 a0 4) fun p20 => ckK S p20 1 <| caM (f_X1_append F S D p20 x1) fun D24 t25 => cal (f_X6_paintBorder F S D24 a0 x2 t25) fun D27 => f_X6_gatherFaces_b119 F S a0 k9 ((f_X6_gatherFaces_L76 F S a0 k9 n76)) D27 x1 x2 x3 else f_X6_gatherFaces_b119 F S a0 k9 ((f_X6_gatherFaces_L76 F S a0 k9 n76)) D x1 x2 x3))
def f_X6_gatherFaces_b62 (F : Nat) (S : CS) (a0 : Nat) (k9 : CD → Int32 → Option CD) (D : CD) (x1 : Int32) : Option CD := ckK S a0 6 <| cal (S.2.2.1 a0 2) fun p2 => ckK S p2 5 <| cal (S.2.2.1 p2 3) fun p5 => ckK S p5 3 <| cal (f_X3_get F S D p5 x1) fun t9 => f_X6_gatherFaces_L76 F S a0 k9 F D x1 t9 0
def f_X6_gatherFaces_L9 (F : Nat) (S : CS) (a0 : Nat) : Nat → CD → Int32 → Option CD
  | 0, _, _ => none
  | n9 + 1, D, x1 => ckK S a0 6 <| cal (S.2.2.1 a0 2) fun p2 => ckK S p2 5 <| (if (D.1 p2 6) ≤ x1 then some D else cal (S.2.2.1 a0 2) fun p6 => ckK S p6 5 <| cal (S.2.2.1 p6 5) fun p9 => ckK S p9 3 <| cal (f_X3_get F S D p9 x1) fun t13 => (if t13 = x1 then cal (S.2.2.1 a0 2) fun p15 => ckK S p15 5 <| cal (S.2.2.1 p15 4) fun p18 => ckK S p18 3 <| cal (f_X3_get F S D p18 x1) fun t22 => cal (S.2.2.1 a0 2) fun p23 => ckK S p23 5 <| cal (f_X5_at F S D p23 x1) fun t27 => cal (f_X6_faceLeftOf F S D a0 t27) fun t29 => cal (f_X6_paintBorder F S D a0 t22 t29) fun D31 => f_X6_gatherFaces_b62 F S a0 ((f_X6_gatherFaces_L9 F S a0 n9)) D31 x1 else f_X6_gatherFaces_b62 F S a0 ((f_X6_gatherFaces_L9 F S a0 n9)) D x1))
def f_X6_gatherFaces (F : Nat) (S : CS) (D : CD) (a0 : Nat) : Option CD := ckK S a0 6 <| cal (S.2.2.1 a0 4) fun p2 => ckK S p2 1 <| cal (f_X1_clear F S D p2) fun D6 => f_X6_gatherFaces_L9 F S a0 F D6 0
set_option maxRecDepth 100000 in
set_option maxHeartbeats 4000000 in
theorem m_X6_gatherFaces (l : Launch) (G : cG) (F : Nat) (S : CS) (D D2 : CD) (a0 : Nat) (h : f_X6_gatherFaces F S D a0 = some D2) : cMV l yX6_gatherFaces vX6_gatherFaces ({ frames := 6, cells := 0, slots := 0, locals := 134 }) G S [.ref a0] D D2 := by
  refine cBodyV (cc := cX6_gatherFaces) (maxL := 4) (ret := none) (own := RX6) (by decide) rfl rfl ?_
  intro sz p e s m below meth c hC hP
  have hC0 := hC
  obtain ⟨hx, hb, -, hts, hown, -, hml, -, -, -⟩ := hC0
  have hS : va_S (cA G S sz) s.heap s.heap [] := va_S.rf
  have hin_X0 : ∀ w ∈ wsX00, w ∈ vX6_gatherFaces := fun w h => List.mem_cons_of_mem _ (hWC0 w h)
  have hin_X5 : ∀ w ∈ wsX50, w ∈ vX6_gatherFaces := fun w h => List.mem_cons_of_mem _ (hWC5 w h)
  have hin_X6 : ∀ w ∈ wsX60, w ∈ vX6_gatherFaces := fun w h => List.mem_cons_of_mem _ (hWC6 w h)
  have fl_X6_regions := hts _ (List.mem_cons_of_mem _ wc_78)
  have fl_X6_corners := hts _ (List.mem_cons_of_mem _ wc_74)
  have fl_X6_pieces := hts _ (List.mem_cons_of_mem _ wc_76)
  have L9 : ∀ (n9 : Nat) (H : Heap) (locs : List Loc) (ls : Array Slot) (D : CD) (x1 : Int32), va_P G.1 vwCl (cW G S D) H → va_S (cA G S sz) s.heap H locs → lv_has ls 4 [(0, .ref a0), (1, .int x1)] → f_X6_gatherFaces_L9 F S a0 n9 D x1 = some D2 → W p l e (headSpec vX6_gatherFaces ({ frames := 6, cells := 0, slots := 0, locals := 134 })).room s m ([.ref a0] : List Value).toArray below meth c H locs 0 0 (cQV below G S D2 sz ([.ref a0] : List Value).toArray s) (F0 m 9 ls []) := by
    intro n9
    induction n9 with
    | zero =>
      intro H locs ls D x1 hP hS hl h
      rw [f_X6_gatherFaces_L9] at h; cases h
    | succ n9 ih9 =>
      have L76 : ∀ (n76 : Nat) (H : Heap) (locs : List Loc) (ls : Array Slot) (D : CD) (x1 : Int32) (x2 : Int32) (x3 : Int32), va_P G.1 vwCl (cW G S D) H → va_S (cA G S sz) s.heap H locs → lv_has ls 4 [(0, .ref a0), (1, .int x1), (2, .int x2), (3, .int x3)] → f_X6_gatherFaces_L76 F S a0 ((f_X6_gatherFaces_L9 F S a0 n9)) n76 D x1 x2 x3 = some D2 → W p l e (headSpec vX6_gatherFaces ({ frames := 6, cells := 0, slots := 0, locals := 134 })).room s m ([.ref a0] : List Value).toArray below meth c H locs 0 0 (cQV below G S D2 sz ([.ref a0] : List Value).toArray s) (F0 m 76 ls []) := by
        intro n76
        induction n76 with
        | zero =>
          intro H locs ls D x1 x2 x3 hP hS hl h
          rw [f_X6_gatherFaces_L76] at h; cases h
        | succ n76 ih76 =>
          have b119 : ∀ (H : Heap) (locs : List Loc) (ls : Array Slot) (D : CD) (x1 : Int32) (x2 : Int32) (x3 : Int32), va_P G.1 vwCl (cW G S D) H → va_S (cA G S sz) s.heap H locs → lv_has ls 4 [(0, .ref a0), (1, .int x1), (2, .int x2), (3, .int x3)] → f_X6_gatherFaces_b119 F S a0 ((f_X6_gatherFaces_L9 F S a0 n9)) ((f_X6_gatherFaces_L76 F S a0 ((f_X6_gatherFaces_L9 F S a0 n9)) n76)) D x1 x2 x3 = some D2 → W p l e (headSpec vX6_gatherFaces ({ frames := 6, cells := 0, slots := 0, locals := 134 })).room s m ([.ref a0] : List Value).toArray below meth c H locs 0 0 (cQV below G S D2 sz ([.ref a0] : List Value).toArray s) (F0 m 119 ls []) := by
            intro H locs ls D x1 x2 x3 hP hS hl h
            unfold f_X6_gatherFaces_b119 at h
            refine lv_aload_n hx hb dX6_gatherFaces_119 rfl (lv_at hl 0 rfl) ?_
            obtain ⟨z1, h⟩ := ckK_el h
            obtain ⟨p2, e3, h⟩ := cal_el h
            refine c_get (C := RX6) (T := TX6) (N := 8) (ref := "SegmentMap") (ci := 7) (v := .ref p2) hC hin_X6 hP z1.1 (cE_6 z1.2) rfl 3 (by decide) fl_X6_pieces rfl (by show some (va_rf (S.2.2.1 a0 3)) = _; rw [e3]; rfl) dX6_gatherFaces_120 ?_
            obtain ⟨z4, h⟩ := ckK_el h
            obtain ⟨p5, e6, h⟩ := cal_el h
            refine c_getN (C := RX0) (T := TX0) (N := 6) (ref := "SegmentMap$Edges") (ci := 1) (v := .ref p5) hC hin_X0 hP z4.1 (cE_0 z4.2) rfl 3 (by decide) (nm := "above") (ds := "LSegmentMap$Row;") (List.mem_of_getElem? (i := 19) rfl) rfl (by show some (va_rf (S.2.2.1 p2 3)) = _; rw [e6]; rfl) dX6_gatherFaces_123 ?_
            refine lv_iload_n hx hb dX6_gatherFaces_126 rfl (lv_at hl 2 rfl) ?_
            obtain ⟨z7, h⟩ := ckK_el h
            obtain ⟨t9, e8, h⟩ := cal_el h
            refine c_VI (As := [.int x2]) (rest := []) hC hP hS z7.1 (cE_3 z7.2) (C := RX3) (T := TX3) (N := 1) rfl (m_X3_get l G F S D p5 x2 t9 e8) (cwV 1 hts (gWC wc_99 wc_100 wc_101 wc_102 wc_96) rfl rfl rfl (by decide +kernel) ⟨Nat.le_of_ble_eq_true rfl, Nat.le_of_ble_eq_true rfl⟩) rfl hl.1 rfl (Nat.le_of_ble_eq_true rfl) dX6_gatherFaces_127 (fun H locs hP hS => ?_)
            refine lv_istore_n (lv' := [(2, .int t9), (0, .ref a0), (1, .int x1), (3, .int x3)]) hx hb dX6_gatherFaces_130 rfl hl (by decide) rfl (fun ls hl => ?_)
            refine lv_iinc (v := x3 + 1) (lv' := [(3, .int (x3 + 1)), (2, .int t9), (0, .ref a0), (1, .int x1)]) hx hb dX6_gatherFaces_131 hl (k := 3) rfl rfl (by decide) rfl (fun ls hl => ?_)
            refine lv_goto (tgt := 76) hx hb dX6_gatherFaces_134 (by decide) ?_
            exact ih76 _ _ _ D x1 t9 (x3 + 1) hP hS (lv_sub hl [2, 3, 1, 0] rfl) h
          intro H locs ls D x1 x2 x3 hP hS hl h
          rw [f_X6_gatherFaces_L76] at h
          refine lv_iload_n hx hb dX6_gatherFaces_76 rfl (lv_at hl 3 rfl) ?_
          refine lv_aload_n hx hb dX6_gatherFaces_77 rfl (lv_at hl 0 rfl) ?_
          obtain ⟨z1, h⟩ := ckK_el h
          obtain ⟨p2, e3, h⟩ := cal_el h
          refine c_get (C := RX6) (T := TX6) (N := 8) (ref := "SegmentMap") (ci := 7) (v := .ref p2) hC hin_X6 hP z1.1 (cE_6 z1.2) rfl 2 (by decide) fl_X6_corners rfl (by show some (va_rf (S.2.2.1 a0 2)) = _; rw [e3]; rfl) dX6_gatherFaces_78 ?_
          obtain ⟨z4, h⟩ := ckK_el h
          obtain ⟨p5, e6, h⟩ := cal_el h
          refine c_getN (C := RX5) (T := TX5) (N := 7) (ref := "SegmentMap$Vertices") (ci := 6) (v := .ref p5) hC hin_X5 hP z4.1 (cE_5 z4.2) rfl 2 (by decide) (nm := "outgoing") (ds := "LSegmentMap$Row;") (List.mem_of_getElem? (i := 7) rfl) rfl (by show some (va_rf (S.2.2.1 p2 2)) = _; rw [e6]; rfl) dX6_gatherFaces_81 ?_
          refine lv_iload_n hx hb dX6_gatherFaces_84 rfl (lv_at hl 1 rfl) ?_
          obtain ⟨z7, h⟩ := ckK_el h
          obtain ⟨t9, e8, h⟩ := cal_el h
          refine c_VI (As := [.int x1]) (rest := [.int x3]) hC hP hS z7.1 (cE_3 z7.2) (C := RX3) (T := TX3) (N := 1) rfl (m_X3_get l G F S D p5 x1 t9 e8) (cwV 1 hts (gWC wc_99 wc_100 wc_101 wc_102 wc_96) rfl rfl rfl (by decide +kernel) ⟨Nat.le_of_ble_eq_true rfl, Nat.le_of_ble_eq_true rfl⟩) rfl hl.1 rfl (Nat.le_of_ble_eq_true rfl) dX6_gatherFaces_85 (fun H locs hP hS => ?_)
          refine lv_icmp_ge (tgt := 137) hx hb dX6_gatherFaces_88 (by decide) (fun u10 => ?_) (fun u10 => ?_)
          · have h := ite_t u10 h
            refine lv_iinc (v := x1 + 1) (lv' := [(1, .int (x1 + 1)), (0, .ref a0), (2, .int x2), (3, .int x3)]) hx hb dX6_gatherFaces_137 hl (k := 1) rfl rfl (by decide) rfl (fun ls hl => ?_)
            refine lv_goto (tgt := 9) hx hb dX6_gatherFaces_140 (by decide) ?_
            exact ih9 _ _ _ D (x1 + 1) hP hS (lv_sub hl [1, 0] rfl) h
          · have h := ite_f u10 h
            refine lv_aload_n hx hb dX6_gatherFaces_91 rfl (lv_at hl 0 rfl) ?_
            obtain ⟨p11, e12, h⟩ := cal_el h
            refine c_get (C := RX6) (T := TX6) (N := 8) (ref := "SegmentMap") (ci := 7) (v := .ref p11) hC hin_X6 hP z1.1 (cE_6 z1.2) rfl 3 (by decide) fl_X6_pieces rfl (by show some (va_rf (S.2.2.1 a0 3)) = _; rw [e12]; rfl) dX6_gatherFaces_92 ?_
            obtain ⟨z13, h⟩ := ckK_el h
            obtain ⟨p14, e15, h⟩ := cal_el h
            refine c_getN (C := RX0) (T := TX0) (N := 6) (ref := "SegmentMap$Edges") (ci := 1) (v := .ref p14) hC hin_X0 hP z13.1 (cE_0 z13.2) rfl 4 (by decide) (nm := "face") (ds := "LSegmentMap$Row;") (List.mem_of_getElem? (i := 11) rfl) rfl (by show some (va_rf (S.2.2.1 p11 4)) = _; rw [e15]; rfl) dX6_gatherFaces_95 ?_
            refine lv_iload_n hx hb dX6_gatherFaces_98 rfl (lv_at hl 2 rfl) ?_
            obtain ⟨z16, h⟩ := ckK_el h
            obtain ⟨t18, e17, h⟩ := cal_el h
            refine c_VI (As := [.int x2]) (rest := []) hC hP hS z16.1 (cE_3 z16.2) (C := RX3) (T := TX3) (N := 1) rfl (m_X3_get l G F S D p14 x2 t18 e17) (cwV 1 hts (gWC wc_99 wc_100 wc_101 wc_102 wc_96) rfl rfl rfl (by decide +kernel) ⟨Nat.le_of_ble_eq_true rfl, Nat.le_of_ble_eq_true rfl⟩) rfl hl.1 rfl (Nat.le_of_ble_eq_true rfl) dX6_gatherFaces_99 (fun H locs hP hS => ?_)
            refine lv_iconst (v := (-1)) hx hb dX6_gatherFaces_102 (by decide) ?_
            refine lv_icmp_ne (tgt := 119) hx hb dX6_gatherFaces_103 (by decide) (fun u19 => ?_) (fun u19 => ?_)
            · have h := ite_f u19 h
              exact b119 _ _ _ D x1 x2 x3 hP hS (lv_sub hl [0, 1, 2, 3] rfl) h
            · have h := ite_t u19 h
              refine lv_aload_n hx hb dX6_gatherFaces_106 rfl (lv_at hl 0 rfl) ?_
              refine lv_iload_n hx hb dX6_gatherFaces_107 rfl (lv_at hl 2 rfl) ?_
              refine lv_aload_n hx hb dX6_gatherFaces_108 rfl (lv_at hl 0 rfl) ?_
              obtain ⟨p20, e21, h⟩ := cal_el h
              refine c_get (C := RX6) (T := TX6) (N := 8) (ref := "SegmentMap") (ci := 7) (v := .ref p20) hC hin_X6 hP z1.1 (cE_6 z1.2) rfl 4 (by decide) fl_X6_regions rfl (by show some (va_rf (S.2.2.1 a0 4)) = _; rw [e21]; rfl) dX6_gatherFaces_109 ?_
              refine lv_iload_n hx hb dX6_gatherFaces_112 rfl (lv_at hl 1 rfl) ?_
              obtain ⟨z22, h⟩ := ckK_el h
              obtain ⟨D24, t25, e23, h⟩ := caM_el h
              refine c_VI (As := [.int x1]) (rest := [.int x2, .ref a0]) hC hP hS z22.1 (cE_1 z22.2) (C := RX1) (T := TX1) (N := 3) rfl (m_X1_append l G F S D D24 p20 x1 t25 e23) (cwV 1 hts (gWC wc_309 wc_293 wc_294 wc_295 wc_286) rfl rfl rfl (by decide +kernel) ⟨Nat.le_of_ble_eq_true rfl, Nat.le_of_ble_eq_true rfl⟩) rfl hl.1 rfl (Nat.le_of_ble_eq_true rfl) dX6_gatherFaces_113 (fun H locs hP hS => ?_)
              obtain ⟨D27, e26, h⟩ := cal_el h
              refine c_VV (As := [.int x2, .int t25]) (rest := []) hC hP hS z1.1 (cE_6 z1.2) (C := RX6) (T := TX6) (N := 8) rfl (m_X6_paintBorder l G F S D24 D27 a0 x2 t25 e26) (cwV 2 hts (gWC wc_306 wc_307 wc_308 wc_66 wc_298) rfl rfl rfl (by decide +kernel) ⟨Nat.le_of_ble_eq_true rfl, Nat.le_of_ble_eq_true rfl⟩) rfl hl.1 rfl (Nat.le_of_ble_eq_true rfl) dX6_gatherFaces_116 (fun H locs hP hS => ?_)
              exact b119 _ _ _ D27 x1 x2 x3 hP hS (lv_sub hl [0, 1, 2, 3] rfl) h
      have b62 : ∀ (H : Heap) (locs : List Loc) (ls : Array Slot) (D : CD) (x1 : Int32), va_P G.1 vwCl (cW G S D) H → va_S (cA G S sz) s.heap H locs → lv_has ls 4 [(0, .ref a0), (1, .int x1)] → f_X6_gatherFaces_b62 F S a0 ((f_X6_gatherFaces_L9 F S a0 n9)) D x1 = some D2 → W p l e (headSpec vX6_gatherFaces ({ frames := 6, cells := 0, slots := 0, locals := 134 })).room s m ([.ref a0] : List Value).toArray below meth c H locs 0 0 (cQV below G S D2 sz ([.ref a0] : List Value).toArray s) (F0 m 62 ls []) := by
        intro H locs ls D x1 hP hS hl h
        unfold f_X6_gatherFaces_b62 at h
        refine lv_aload_n hx hb dX6_gatherFaces_62 rfl (lv_at hl 0 rfl) ?_
        obtain ⟨z1, h⟩ := ckK_el h
        obtain ⟨p2, e3, h⟩ := cal_el h
        refine c_get (C := RX6) (T := TX6) (N := 8) (ref := "SegmentMap") (ci := 7) (v := .ref p2) hC hin_X6 hP z1.1 (cE_6 z1.2) rfl 2 (by decide) fl_X6_corners rfl (by show some (va_rf (S.2.2.1 a0 2)) = _; rw [e3]; rfl) dX6_gatherFaces_63 ?_
        obtain ⟨z4, h⟩ := ckK_el h
        obtain ⟨p5, e6, h⟩ := cal_el h
        refine c_getN (C := RX5) (T := TX5) (N := 7) (ref := "SegmentMap$Vertices") (ci := 6) (v := .ref p5) hC hin_X5 hP z4.1 (cE_5 z4.2) rfl 3 (by decide) (nm := "lowest") (ds := "LSegmentMap$Row;") (List.mem_of_getElem? (i := 18) rfl) rfl (by show some (va_rf (S.2.2.1 p2 3)) = _; rw [e6]; rfl) dX6_gatherFaces_66 ?_
        refine lv_iload_n hx hb dX6_gatherFaces_69 rfl (lv_at hl 1 rfl) ?_
        obtain ⟨z7, h⟩ := ckK_el h
        obtain ⟨t9, e8, h⟩ := cal_el h
        refine c_VI (As := [.int x1]) (rest := []) hC hP hS z7.1 (cE_3 z7.2) (C := RX3) (T := TX3) (N := 1) rfl (m_X3_get l G F S D p5 x1 t9 e8) (cwV 1 hts (gWC wc_99 wc_100 wc_101 wc_102 wc_96) rfl rfl rfl (by decide +kernel) ⟨Nat.le_of_ble_eq_true rfl, Nat.le_of_ble_eq_true rfl⟩) rfl hl.1 rfl (Nat.le_of_ble_eq_true rfl) dX6_gatherFaces_70 (fun H locs hP hS => ?_)
        refine lv_istore_n (lv' := [(2, .int t9), (0, .ref a0), (1, .int x1)]) hx hb dX6_gatherFaces_73 rfl hl (by decide) rfl (fun ls hl => ?_)
        refine lv_iconst (v := 0) hx hb dX6_gatherFaces_74 (by decide) ?_
        refine lv_istore_n (lv' := [(3, .int 0), (2, .int t9), (0, .ref a0), (1, .int x1)]) hx hb dX6_gatherFaces_75 rfl hl (by decide) rfl (fun ls hl => ?_)
        exact L76 F _ _ _ D x1 t9 0 hP hS (lv_sub hl [2, 3, 1, 0] rfl) h
      intro H locs ls D x1 hP hS hl h
      rw [f_X6_gatherFaces_L9] at h
      refine lv_iload_n hx hb dX6_gatherFaces_9 rfl (lv_at hl 1 rfl) ?_
      refine lv_aload_n hx hb dX6_gatherFaces_10 rfl (lv_at hl 0 rfl) ?_
      obtain ⟨z1, h⟩ := ckK_el h
      obtain ⟨p2, e3, h⟩ := cal_el h
      refine c_get (C := RX6) (T := TX6) (N := 8) (ref := "SegmentMap") (ci := 7) (v := .ref p2) hC hin_X6 hP z1.1 (cE_6 z1.2) rfl 2 (by decide) fl_X6_corners rfl (by show some (va_rf (S.2.2.1 a0 2)) = _; rw [e3]; rfl) dX6_gatherFaces_11 ?_
      obtain ⟨z4, h⟩ := ckK_el h
      refine c_getN (C := RX5) (T := TX5) (N := 7) (ref := "SegmentMap$Vertices") (ci := 6) (v := .int (D.1 p2 6)) hC hin_X5 hP z4.1 (cE_5 z4.2) rfl 6 (by decide) (nm := "count") (ds := "I") (List.mem_of_getElem? (i := 0) rfl) rfl rfl dX6_gatherFaces_14 ?_
      refine lv_icmp_ge (tgt := 143) hx hb dX6_gatherFaces_17 (by decide) (fun u5 => ?_) (fun u5 => ?_)
      · have h := ite_t u5 h
        cases h
        exact c_vret hC hP hS dX6_gatherFaces_143
      · have h := ite_f u5 h
        refine lv_aload_n hx hb dX6_gatherFaces_20 rfl (lv_at hl 0 rfl) ?_
        obtain ⟨p6, e7, h⟩ := cal_el h
        refine c_get (C := RX6) (T := TX6) (N := 8) (ref := "SegmentMap") (ci := 7) (v := .ref p6) hC hin_X6 hP z1.1 (cE_6 z1.2) rfl 2 (by decide) fl_X6_corners rfl (by show some (va_rf (S.2.2.1 a0 2)) = _; rw [e7]; rfl) dX6_gatherFaces_21 ?_
        obtain ⟨z8, h⟩ := ckK_el h
        obtain ⟨p9, e10, h⟩ := cal_el h
        refine c_getN (C := RX5) (T := TX5) (N := 7) (ref := "SegmentMap$Vertices") (ci := 6) (v := .ref p9) hC hin_X5 hP z8.1 (cE_5 z8.2) rfl 5 (by decide) (nm := "root") (ds := "LSegmentMap$Row;") (List.mem_of_getElem? (i := 21) rfl) rfl (by show some (va_rf (S.2.2.1 p6 5)) = _; rw [e10]; rfl) dX6_gatherFaces_24 ?_
        refine lv_iload_n hx hb dX6_gatherFaces_27 rfl (lv_at hl 1 rfl) ?_
        obtain ⟨z11, h⟩ := ckK_el h
        obtain ⟨t13, e12, h⟩ := cal_el h
        refine c_VI (As := [.int x1]) (rest := []) hC hP hS z11.1 (cE_3 z11.2) (C := RX3) (T := TX3) (N := 1) rfl (m_X3_get l G F S D p9 x1 t13 e12) (cwV 1 hts (gWC wc_99 wc_100 wc_101 wc_102 wc_96) rfl rfl rfl (by decide +kernel) ⟨Nat.le_of_ble_eq_true rfl, Nat.le_of_ble_eq_true rfl⟩) rfl hl.1 rfl (Nat.le_of_ble_eq_true rfl) dX6_gatherFaces_28 (fun H locs hP hS => ?_)
        refine lv_iload_n hx hb dX6_gatherFaces_31 rfl (lv_at hl 1 rfl) ?_
        refine lv_icmp_ne (tgt := 62) hx hb dX6_gatherFaces_32 (by decide) (fun u14 => ?_) (fun u14 => ?_)
        · have h := ite_f u14 h
          exact b62 _ _ _ D x1 hP hS (lv_sub hl [0, 1] rfl) h
        · have h := ite_t u14 h
          refine lv_aload_n hx hb dX6_gatherFaces_35 rfl (lv_at hl 0 rfl) ?_
          refine lv_aload_n hx hb dX6_gatherFaces_36 rfl (lv_at hl 0 rfl) ?_
          obtain ⟨p15, e16, h⟩ := cal_el h
          refine c_get (C := RX6) (T := TX6) (N := 8) (ref := "SegmentMap") (ci := 7) (v := .ref p15) hC hin_X6 hP z1.1 (cE_6 z1.2) rfl 2 (by decide) fl_X6_corners rfl (by show some (va_rf (S.2.2.1 a0 2)) = _; rw [e16]; rfl) dX6_gatherFaces_37 ?_
          obtain ⟨z17, h⟩ := ckK_el h
          obtain ⟨p18, e19, h⟩ := cal_el h
          refine c_getN (C := RX5) (T := TX5) (N := 7) (ref := "SegmentMap$Vertices") (ci := 6) (v := .ref p18) hC hin_X5 hP z17.1 (cE_5 z17.2) rfl 4 (by decide) (nm := "top") (ds := "LSegmentMap$Row;") (List.mem_of_getElem? (i := 20) rfl) rfl (by show some (va_rf (S.2.2.1 p15 4)) = _; rw [e19]; rfl) dX6_gatherFaces_40 ?_
          refine lv_iload_n hx hb dX6_gatherFaces_43 rfl (lv_at hl 1 rfl) ?_
          obtain ⟨z20, h⟩ := ckK_el h
          obtain ⟨t22, e21, h⟩ := cal_el h
          refine c_VI (As := [.int x1]) (rest := [.ref a0]) hC hP hS z20.1 (cE_3 z20.2) (C := RX3) (T := TX3) (N := 1) rfl (m_X3_get l G F S D p18 x1 t22 e21) (cwV 1 hts (gWC wc_99 wc_100 wc_101 wc_102 wc_96) rfl rfl rfl (by decide +kernel) ⟨Nat.le_of_ble_eq_true rfl, Nat.le_of_ble_eq_true rfl⟩) rfl hl.1 rfl (Nat.le_of_ble_eq_true rfl) dX6_gatherFaces_44 (fun H locs hP hS => ?_)
          refine lv_aload_n hx hb dX6_gatherFaces_47 rfl (lv_at hl 0 rfl) ?_
          refine lv_aload_n hx hb dX6_gatherFaces_48 rfl (lv_at hl 0 rfl) ?_
          obtain ⟨p23, e24, h⟩ := cal_el h
          refine c_get (C := RX6) (T := TX6) (N := 8) (ref := "SegmentMap") (ci := 7) (v := .ref p23) hC hin_X6 hP z1.1 (cE_6 z1.2) rfl 2 (by decide) fl_X6_corners rfl (by show some (va_rf (S.2.2.1 a0 2)) = _; rw [e24]; rfl) dX6_gatherFaces_49 ?_
          refine lv_iload_n hx hb dX6_gatherFaces_52 rfl (lv_at hl 1 rfl) ?_
          obtain ⟨z25, h⟩ := ckK_el h
          obtain ⟨t27, e26, h⟩ := cal_el h
          refine c_VA (As := [.int x1]) (rest := [.ref a0, .int t22, .ref a0]) hC hP hS z25.1 (cE_5 z25.2) (C := RX5) (T := TX5) (N := 7) rfl (m_X5_at l G F S D p23 x1 t27 e26) (cwV 1 hts (gWC wc_89 wc_90 wc_91 wc_92 wc_82) rfl rfl rfl (by decide +kernel) ⟨Nat.le_of_ble_eq_true rfl, Nat.le_of_ble_eq_true rfl⟩) rfl hl.1 rfl (Nat.le_of_ble_eq_true rfl) dX6_gatherFaces_53 (fun H locs hP hS => ?_)
          obtain ⟨t29, e28, h⟩ := cal_el h
          refine c_VI (As := [.ref t27]) (rest := [.int t22, .ref a0]) hC hP hS z1.1 (cE_6 z1.2) (C := RX6) (T := TX6) (N := 8) rfl (m_X6_faceLeftOf l G F S D a0 t27 t29 e28) (cwV 1 hts (gWC wc_179 wc_180 wc_181 wc_66 wc_161) rfl rfl rfl (by decide +kernel) ⟨Nat.le_of_ble_eq_true rfl, Nat.le_of_ble_eq_true rfl⟩) rfl hl.1 rfl (Nat.le_of_ble_eq_true rfl) dX6_gatherFaces_56 (fun H locs hP hS => ?_)
          obtain ⟨D31, e30, h⟩ := cal_el h
          refine c_VV (As := [.int t22, .int t29]) (rest := []) hC hP hS z1.1 (cE_6 z1.2) (C := RX6) (T := TX6) (N := 8) rfl (m_X6_paintBorder l G F S D D31 a0 t22 t29 e30) (cwV 2 hts (gWC wc_306 wc_307 wc_308 wc_66 wc_298) rfl rfl rfl (by decide +kernel) ⟨Nat.le_of_ble_eq_true rfl, Nat.le_of_ble_eq_true rfl⟩) rfl hl.1 rfl (Nat.le_of_ble_eq_true rfl) dX6_gatherFaces_59 (fun H locs hP hS => ?_)
          exact b62 _ _ _ D31 x1 hP hS (lv_sub hl [0, 1] rfl) h
  refine m_entry (Nat.le_of_ble_eq_true rfl) (fun ls hl => ?_)
  have hl : lv_has ls 4 [(0, .ref a0)] := hl
  unfold f_X6_gatherFaces at h
  refine lv_aload_n hx hb dX6_gatherFaces_0 rfl (lv_at hl 0 rfl) ?_
  obtain ⟨z1, h⟩ := ckK_el h
  obtain ⟨p2, e3, h⟩ := cal_el h
  refine c_get (C := RX6) (T := TX6) (N := 8) (ref := "SegmentMap") (ci := 7) (v := .ref p2) hC hin_X6 hP z1.1 (cE_6 z1.2) rfl 4 (by decide) fl_X6_regions rfl (by show some (va_rf (S.2.2.1 a0 4)) = _; rw [e3]; rfl) dX6_gatherFaces_1 ?_
  obtain ⟨z4, h⟩ := ckK_el h
  obtain ⟨D6, e5, h⟩ := cal_el h
  refine c_VV (As := []) (rest := []) hC hP hS z4.1 (cE_1 z4.2) (C := RX1) (T := TX1) (N := 3) rfl (m_X1_clear l G F S D D6 p2 e5) (cwV 0 hts (gWC wc_303 wc_304 wc_305 wc_295 wc_291) rfl rfl rfl (by decide +kernel) ⟨Nat.le_of_ble_eq_true rfl, Nat.le_of_ble_eq_true rfl⟩) rfl hl.1 rfl (Nat.le_of_ble_eq_true rfl) dX6_gatherFaces_4 (fun H locs hP hS => ?_)
  refine lv_iconst (v := 0) hx hb dX6_gatherFaces_7 (by decide) ?_
  refine lv_istore_n (lv' := [(1, .int 0), (0, .ref a0)]) hx hb dX6_gatherFaces_8 rfl hl (by decide) rfl (fun ls hl => ?_)
  exact L9 F _ _ _ D6 0 hP hS (lv_sub hl [1, 0] rfl) h

theorem dX6_rebuild_0 : decode cX6_rebuild 0 = .ok (.aload_n 0, 1) := by decide +kernel
theorem dX6_rebuild_1 : decode cX6_rebuild 1 = .ok (.invokevirtual 220, 3) := by decide +kernel
theorem dX6_rebuild_4 : decode cX6_rebuild 4 = .ok (.aload_n 0, 1) := by decide +kernel
theorem dX6_rebuild_5 : decode cX6_rebuild 5 = .ok (.invokevirtual 223, 3) := by decide +kernel
theorem dX6_rebuild_8 : decode cX6_rebuild 8 = .ok (.aload_n 0, 1) := by decide +kernel
theorem dX6_rebuild_9 : decode cX6_rebuild 9 = .ok (.invokevirtual 226, 3) := by decide +kernel
theorem dX6_rebuild_12 : decode cX6_rebuild 12 = .ok (.aload_n 0, 1) := by decide +kernel
theorem dX6_rebuild_13 : decode cX6_rebuild 13 = .ok (.invokevirtual 229, 3) := by decide +kernel
theorem dX6_rebuild_16 : decode cX6_rebuild 16 = .ok (.aload_n 0, 1) := by decide +kernel
theorem dX6_rebuild_17 : decode cX6_rebuild 17 = .ok (.invokevirtual 232, 3) := by decide +kernel
theorem dX6_rebuild_20 : decode cX6_rebuild 20 = .ok (.aload_n 0, 1) := by decide +kernel
theorem dX6_rebuild_21 : decode cX6_rebuild 21 = .ok (.invokevirtual 235, 3) := by decide +kernel
theorem dX6_rebuild_24 : decode cX6_rebuild 24 = .ok (.return_, 1) := by decide +kernel
def f_X6_rebuild (F : Nat) (S : CS) (D : CD) (a0 : Nat) : Option CD := ckK S a0 6 <| cal (f_X6_gatherVertices F S D a0) fun D3 => cal (f_X6_gatherEdges F S D3 a0) fun D5 => cal (f_X6_sortBySlope F S D5 a0) fun D7 => cal (f_X6_spreadEdges F S D7 a0) fun D9 => cal (f_X6_joinComponents F S D9 a0) fun D11 => cal (f_X6_gatherFaces F S D11 a0) fun D13 => some D13
set_option maxRecDepth 100000 in
set_option maxHeartbeats 4000000 in
theorem m_X6_rebuild (l : Launch) (G : cG) (F : Nat) (S : CS) (D D2 : CD) (a0 : Nat) (h : f_X6_rebuild F S D a0 = some D2) : cMV l yX6_rebuild vX6_rebuild ({ frames := 7, cells := 0, slots := 0, locals := 157 }) G S [.ref a0] D D2 := by
  refine cBodyV (cc := cX6_rebuild) (maxL := 1) (ret := none) (own := RX6) (by decide) rfl rfl ?_
  intro sz p e s m below meth c hC hP
  have hC0 := hC
  obtain ⟨hx, hb, -, hts, hown, -, hml, -, -, -⟩ := hC0
  have hS : va_S (cA G S sz) s.heap s.heap [] := va_S.rf
  refine m_entry (Nat.le_of_ble_eq_true rfl) (fun ls hl => ?_)
  have hl : lv_has ls 1 [(0, .ref a0)] := hl
  unfold f_X6_rebuild at h
  refine lv_aload_n hx hb dX6_rebuild_0 rfl (lv_at hl 0 rfl) ?_
  obtain ⟨z1, h⟩ := ckK_el h
  obtain ⟨D3, e2, h⟩ := cal_el h
  refine c_VV (As := []) (rest := []) hC hP hS z1.1 (cE_6 z1.2) (C := RX6) (T := TX6) (N := 8) rfl (m_X6_gatherVertices l G F S D D3 a0 e2) (cwV 0 hts (gWC wc_311 wc_312 wc_313 wc_66 wc_231) rfl rfl rfl (by decide +kernel) ⟨Nat.le_of_ble_eq_true rfl, Nat.le_of_ble_eq_true rfl⟩) rfl hl.1 rfl (Nat.le_of_ble_eq_true rfl) dX6_rebuild_1 (fun H locs hP hS => ?_)
  refine lv_aload_n hx hb dX6_rebuild_4 rfl (lv_at hl 0 rfl) ?_
  obtain ⟨D5, e4, h⟩ := cal_el h
  refine c_VV (As := []) (rest := []) hC hP hS z1.1 (cE_6 z1.2) (C := RX6) (T := TX6) (N := 8) rfl (m_X6_gatherEdges l G F S D3 D5 a0 e4) (cwV 0 hts (gWC wc_314 wc_315 wc_316 wc_66 wc_249) rfl rfl rfl (by decide +kernel) ⟨Nat.le_of_ble_eq_true rfl, Nat.le_of_ble_eq_true rfl⟩) rfl hl.1 rfl (Nat.le_of_ble_eq_true rfl) dX6_rebuild_5 (fun H locs hP hS => ?_)
  refine lv_aload_n hx hb dX6_rebuild_8 rfl (lv_at hl 0 rfl) ?_
  obtain ⟨D7, e6, h⟩ := cal_el h
  refine c_VV (As := []) (rest := []) hC hP hS z1.1 (cE_6 z1.2) (C := RX6) (T := TX6) (N := 8) rfl (m_X6_sortBySlope l G F S D5 D7 a0 e6) (cwV 0 hts (gWC wc_317 wc_318 wc_319 wc_66 wc_257) rfl rfl rfl (by decide +kernel) ⟨Nat.le_of_ble_eq_true rfl, Nat.le_of_ble_eq_true rfl⟩) rfl hl.1 rfl (Nat.le_of_ble_eq_true rfl) dX6_rebuild_9 (fun H locs hP hS => ?_)
  refine lv_aload_n hx hb dX6_rebuild_12 rfl (lv_at hl 0 rfl) ?_
  obtain ⟨D9, e8, h⟩ := cal_el h
  refine c_VV (As := []) (rest := []) hC hP hS z1.1 (cE_6 z1.2) (C := RX6) (T := TX6) (N := 8) rfl (m_X6_spreadEdges l G F S D7 D9 a0 e8) (cwV 0 hts (gWC wc_320 wc_321 wc_322 wc_66 wc_271) rfl rfl rfl (by decide +kernel) ⟨Nat.le_of_ble_eq_true rfl, Nat.le_of_ble_eq_true rfl⟩) rfl hl.1 rfl (Nat.le_of_ble_eq_true rfl) dX6_rebuild_13 (fun H locs hP hS => ?_)
  refine lv_aload_n hx hb dX6_rebuild_16 rfl (lv_at hl 0 rfl) ?_
  obtain ⟨D11, e10, h⟩ := cal_el h
  refine c_VV (As := []) (rest := []) hC hP hS z1.1 (cE_6 z1.2) (C := RX6) (T := TX6) (N := 8) rfl (m_X6_joinComponents l G F S D9 D11 a0 e10) (cwV 0 hts (gWC wc_323 wc_324 wc_325 wc_66 wc_280) rfl rfl rfl (by decide +kernel) ⟨Nat.le_of_ble_eq_true rfl, Nat.le_of_ble_eq_true rfl⟩) rfl hl.1 rfl (Nat.le_of_ble_eq_true rfl) dX6_rebuild_17 (fun H locs hP hS => ?_)
  refine lv_aload_n hx hb dX6_rebuild_20 rfl (lv_at hl 0 rfl) ?_
  obtain ⟨D13, e12, h⟩ := cal_el h
  refine c_VV (As := []) (rest := []) hC hP hS z1.1 (cE_6 z1.2) (C := RX6) (T := TX6) (N := 8) rfl (m_X6_gatherFaces l G F S D11 D13 a0 e12) (cwV 0 hts (gWC wc_326 wc_327 wc_328 wc_66 wc_302) rfl rfl rfl (by decide +kernel) ⟨Nat.le_of_ble_eq_true rfl, Nat.le_of_ble_eq_true rfl⟩) rfl hl.1 rfl (Nat.le_of_ble_eq_true rfl) dX6_rebuild_21 (fun H locs hP hS => ?_)
  cases h
  exact c_vret hC hP hS dX6_rebuild_24
